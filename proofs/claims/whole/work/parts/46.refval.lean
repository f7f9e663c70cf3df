/-! ===== values: sign, above the line, below the line, powers ===== -/
abbrev Vl : Type := Int32 × Nat × Nat × (Nat → Int32)
theorem vup_s {α : Type} {f : Nat → α} {k : Nat} {v : α} : va_up f k v k = v := by unfold va_up; rw [if_pos rfl]
theorem vup_n {α : Type} {f : Nat → α} {k j : Nat} {v : α} (h : j ≠ k) : va_up f k v j = f j := by unfold va_up; rw [if_neg h]
theorem vup_vup {α : Type} {f : Nat → α} {k : Nat} {v w : α} : va_up (va_up f k v) k w = va_up f k w := by
  funext j
  unfold va_up
  by_cases h : j = k
  · rw [if_pos h, if_pos h]
  · rw [if_neg h, if_neg h, if_neg h]
theorem vup_id {α : Type} {f : Nat → α} {k : Nat} : va_up f k (f k) = f := by
  funext j
  unfold va_up
  by_cases h : j = k
  · rw [if_pos h, h]
  · rw [if_neg h]
def vS (x : Vl) (s : Int32) : Vl := (s, x.2.1, x.2.2.1, x.2.2.2)
def vN (x : Vl) (n : Nat) : Vl := (x.1, n, x.2.2.1, x.2.2.2)
def vD (x : Vl) (d : Nat) : Vl := (x.1, x.2.1, d, x.2.2.2)
def vP (x : Vl) (p : Nat → Int32) : Vl := (x.1, x.2.1, x.2.2.1, p)
def vOne : Vl := (1, 1, 1, fun _ => 0)
/-- the same but for powers that nobody reads -/
def veq (x y : Vl) : Prop := x.1 = y.1 ∧ x.2.1 = y.2.1 ∧ x.2.2.1 = y.2.2.1 ∧ ∀ j, j < 8 → x.2.2.2 j = y.2.2.2 j
theorem veq_rf (x : Vl) : veq x x := ⟨rfl, rfl, rfl, fun _ _ => rfl⟩
theorem veq_tr {x y z : Vl} (h : veq x y) (h' : veq y z) : veq x z := ⟨h.1.trans h'.1, h.2.1.trans h'.2.1, h.2.2.1.trans h'.2.2.1, fun j hj => (h.2.2.2 j hj).trans (h'.2.2.2 j hj)⟩
theorem veq_sy {x y : Vl} (h : veq x y) : veq y x := ⟨h.1.symm, h.2.1.symm, h.2.2.1.symm, fun j hj => (h.2.2.2 j hj).symm⟩
def vRed (x : Vl) : Vl := if x.2.1 = 0 then (0, 0, 1, x.2.2.2) else (x.1, x.2.1 / Nat.gcd x.2.1 x.2.2.1, x.2.2.1 / Nat.gcd x.2.1 x.2.2.1, x.2.2.2)
def vBig (B : Nat) (x : Vl) : Prop := 2 ^ B ≤ x.2.1 ∨ 2 ^ B ≤ x.2.2.1
def pOk (p : Nat → Int32) : Prop := ∀ k, k < 8 → ¬ p k < -99 ∧ ¬ 99 < p k
def pEq (p q : Nat → Int32) : Prop := ∀ k, k < 8 → p k = q k
/-- the values of the reference: value w by the numbers 2 w and 2 w + 1, row 2 and row 3 -/
def RX (K : Nat → Nat → Int32) (N : Nat → Nat) (S : Nat → Vl) : Prop := RN K N ∧ ∀ w, w < 168 → N (2 * w) = (S w).2.1 ∧ N (2 * w + 1) = (S w).2.2.1 ∧ K 2 w = (S w).1 ∧ ∀ j, j < 8 → K 3 (8 * w + j) = (S w).2.2.2 j
def xo3 (K K' : Nat → Nat → Int32) : Prop := ∀ r, r ≠ 1 → r ≠ 2 → r ≠ 3 → K' r = K r
theorem xo3_rf (K : Nat → Nat → Int32) : xo3 K K := fun _ _ _ _ => rfl
theorem xo3_tr {K K' K'' : Nat → Nat → Int32} (h : xo3 K K') (h' : xo3 K' K'') : xo3 K K'' := fun r a b c => (h' r a b c).trans (h r a b c)
theorem xo3_1 {K K' : Nat → Nat → Int32} (h : xo1 K K') : xo3 K K' := fun r a _ _ => h r a
theorem xo3_up {K : Nat → Nat → Int32} {r i : Nat} {v : Int32} (hr : r = 1 ∨ r = 2 ∨ r = 3) : xo3 K (xup2 K r i v) := fun q a b c => xup2_r (by omega)
theorem RN_row {K K' : Nat → Nat → Int32} {N : Nat → Nat} (e : K' 1 = K 1) (h : RN K N) : RN K' N := fun n hn => ⟨(h n hn).1, fun k hk => by rw [e]; exact (h n hn).2 k hk⟩
theorem RX_scr {K K' : Nat → Nat → Int32} {N N' : Nat → Nat} {S : Nat → Vl} (h : RX K N S) (ho : xo1 K K') (hN : RN K' N') (hz : zk N N') : RX K' N' S := by
  refine ⟨hN, fun w hw => ?_⟩
  obtain ⟨h1, h2, h3, h4⟩ := h.2 w hw
  exact ⟨by rw [hz _ (by omega)]; exact h1, by rw [hz _ (by omega)]; exact h2, by rw [ho 2 (by omega)]; exact h3, by rw [ho 3 (by omega)]; exact h4⟩
theorem RX_num {K K' : Nat → Nat → Int32} {N : Nat → Nat} {S : Nat → Vl} {v y : Nat} (h : RX K N S) (ho : xo1 K K') (hN : RN K' (va_up N (2 * v) y)) : RX K' (va_up N (2 * v) y) (va_up S v (vN (S v) y)) := by
  refine ⟨hN, fun w hw => ?_⟩
  obtain ⟨h1, h2, h3, h4⟩ := h.2 w hw
  rw [ho 2 (by omega), ho 3 (by omega)]
  by_cases e : w = v
  · subst e
    rw [vup_s, vup_s, vup_n (by omega)]
    exact ⟨rfl, h2, h3, h4⟩
  · rw [vup_n e, vup_n (by omega), vup_n (by omega)]
    exact ⟨h1, h2, h3, h4⟩
theorem RX_den {K K' : Nat → Nat → Int32} {N : Nat → Nat} {S : Nat → Vl} {v y : Nat} (h : RX K N S) (ho : xo1 K K') (hN : RN K' (va_up N (2 * v + 1) y)) : RX K' (va_up N (2 * v + 1) y) (va_up S v (vD (S v) y)) := by
  refine ⟨hN, fun w hw => ?_⟩
  obtain ⟨h1, h2, h3, h4⟩ := h.2 w hw
  rw [ho 2 (by omega), ho 3 (by omega)]
  by_cases e : w = v
  · subst e
    rw [vup_s, vup_s, vup_n (by omega)]
    exact ⟨h1, rfl, h3, h4⟩
  · rw [vup_n e, vup_n (by omega), vup_n (by omega)]
    exact ⟨h1, h2, h3, h4⟩
theorem RX_sgn {K : Nat → Nat → Int32} {N : Nat → Nat} {S : Nat → Vl} {v : Nat} {s : Int32} (h : RX K N S) : RX (xup2 K 2 v s) N (va_up S v (vS (S v) s)) := by
  refine ⟨RN_row (xup2_r (by omega)) h.1, fun w hw => ?_⟩
  obtain ⟨h1, h2, h3, h4⟩ := h.2 w hw
  rw [xup2_r (show 3 ≠ 2 by omega)]
  by_cases e : w = v
  · subst e
    rw [vup_s, xup2_s]
    exact ⟨h1, h2, rfl, h4⟩
  · rw [vup_n e, xup2_n e]
    exact ⟨h1, h2, h3, h4⟩
theorem RX_pow {K : Nat → Nat → Int32} {N : Nat → Nat} {S : Nat → Vl} {v i : Nat} {s : Int32} (h : RX K N S) (hi : i < 8) : RX (xup2 K 3 (8 * v + i) s) N (va_up S v (vP (S v) (va_up (S v).2.2.2 i s))) := by
  refine ⟨RN_row (xup2_r (by omega)) h.1, fun w hw => ?_⟩
  obtain ⟨h1, h2, h3, h4⟩ := h.2 w hw
  rw [xup2_r (show 2 ≠ 3 by omega)]
  by_cases e : w = v
  · subst e
    rw [vup_s]
    refine ⟨h1, h2, h3, fun j hj => ?_⟩
    show _ = va_up (S w).2.2.2 i s j
    by_cases ej : j = i
    · subst ej; rw [vup_s, xup2_s]
    · rw [vup_n ej, xup2_n (by omega)]; exact h4 j hj
  · rw [vup_n e]
    exact ⟨h1, h2, h3, fun j hj => by rw [xup2_n (by omega)]; exact h4 j hj⟩
theorem RX_to {K : Nat → Nat → Int32} {N : Nat → Nat} {S S' : Nat → Vl} (h : RX K N S) (e : ∀ w, w < 168 → veq (S w) (S' w)) : RX K N S' := by
  refine ⟨h.1, fun w hw => ?_⟩
  obtain ⟨h1, h2, h3, h4⟩ := h.2 w hw
  obtain ⟨e1, e2, e3, e4⟩ := e w hw
  exact ⟨h1.trans e2, h2.trans e3, h3.trans e1, fun j hj => (h4 j hj).trans (e4 j hj)⟩
theorem RX_v {K : Nat → Nat → Int32} {N : Nat → Nat} {S : Nat → Vl} {v : Nat} {x y : Vl} (h : RX K N (va_up S v x)) (e : veq x y) : RX K N (va_up S v y) := RX_to h (fun w _ => by
  by_cases ew : w = v
  · subst ew; rw [vup_s, vup_s]; exact e
  · rw [vup_n ew, vup_n ew]; exact veq_rf _)
section RefVal
variable {g : xG} {l : Launch} {h : xH} {b : Nat} {K : Nat → Nat → Int32} {N : Nat → Nat} {S : Nat → Vl} {Q : Option Value → xH → Prop}
theorem c_setOne {v : Nat} (hS : RS h b) (hX : RX K N S) (hv : v < 168) (k : ∀ K' N', xo3 K K' → RX K' N' (va_up S v vOne) → Q none (xB h b K')) : ac g l mX11_setOne [.ref b, .int (nI v)] (xB h b K) Q := by
  refine ac_of (by decide) (Nat.le_of_ble_eq_true rfl) ?_
  refine sX11_setOne_0 rfl ?_
  refine nX11_setOne_1 ?_
  refine sX11_setOne_2 rfl ?_
  refine nX11_setOne_3 ?_
  refine nX11_setOne_4 ?_
  refine tX11_setOne_5 hS (Nat.le_of_ble_eq_true rfl) ?_
  refine c_setSmall hS hX.1 (by omega) (by decide) (fun K1 ho1 hN1 => ?_)
  have hX1 := RX_num hX ho1 hN1
  refine sX11_setOne_8 rfl ?_
  refine nX11_setOne_9 ?_
  refine sX11_setOne_10 rfl ?_
  refine nX11_setOne_11 ?_
  refine nX11_setOne_12 ?_
  refine nX11_setOne_13 ?_
  refine nX11_setOne_14 ?_
  refine tX11_setOne_15 hS (Nat.le_of_ble_eq_true rfl) ?_
  refine c_setSmall hS hN1 (by omega) (by decide) (fun K2 ho2 hN2 => ?_)
  have hX2 := RX_den hX1 ho2 hN2
  refine sX11_setOne_18 rfl ?_
  refine tX11_setOne_19 hS ?_
  refine sX11_setOne_22 rfl ?_
  refine nX11_setOne_23 ?_
  refine tX11_setOne_24 hS (by decide) (by decide) rfl (by simp only [rl]; omega) ?_
  refine nX11_setOne_25 ?_
  refine sX11_setOne_26 ?_
  have hX3 := RX_sgn (v := v) (s := nI 1) hX2
  simp only [vup_s, vup_vup] at hX3
  suffices H : ∀ t i K3 N3 p, i + t = 8 → (∀ j, j < i → p j = 0) → xo3 K K3 → RX K3 N3 (va_up S v (1, 1, 1, p)) → aw g l mX11_setOne 27 [(0, .ref b), (1, .int (nI v)), (2, .int (nI i))] [] (xB h b K3) Q from H 8 0 _ _ _ rfl (fun j hj => absurd hj (by omega)) (xo3_tr (xo3_1 ho1) (xo3_tr (xo3_1 ho2) (xo3_up (by omega)))) hX3
  intro t
  induction t with
  | zero =>
    intro i K3 N3 p hi hp ho3 hR
    obtain rfl : i = 8 := by omega
    refine sX11_setOne_27 rfl ?_
    refine nX11_setOne_28 ?_
    refine nX11_setOne_30 (by omega) (by omega) (fun _ => ?_) (fun hc => absurd hc (by omega))
    refine sX11_setOne_51 ?_
    exact k K3 N3 ho3 (RX_v hR ⟨rfl, rfl, rfl, fun j hj => hp j hj⟩)
  | succ t ih =>
    intro i K3 N3 p hi hp ho3 hR
    refine sX11_setOne_27 rfl ?_
    refine nX11_setOne_28 ?_
    refine nX11_setOne_30 (by omega) (by omega) (fun hc => absurd hc (by omega)) (fun _ => ?_)
    refine sX11_setOne_33 rfl ?_
    refine tX11_setOne_34 hS ?_
    refine nX11_setOne_37 ?_
    refine sX11_setOne_39 rfl ?_
    refine nX11_setOne_40 ?_
    refine sX11_setOne_41 rfl ?_
    refine nX11_setOne_42 ?_
    refine nX11_setOne_43 ?_
    refine tX11_setOne_44 hS (by decide) (by decide) rfl (by simp only [rl]; omega) ?_
    refine nX11_setOne_45 rfl ?_
    refine sX11_setOne_48 ?_
    have hR2 := RX_pow (v := v) (i := i) (s := nI 0) hR (by omega)
    simp only [vup_s, vup_vup] at hR2
    refine ih (i + 1) _ N3 (va_up p i 0) (by omega) (fun j hj => ?_) (xo3_tr ho3 (xo3_up (by omega))) hR2
    by_cases e : j = i
    · subst e; exact vup_s
    · rw [vup_n e]; exact hp j (by omega)
theorem c_take {v w : Nat} (hS : RS h b) (hX : RX K N S) (hv : v < 168) (hw : w < 168) (hne : w ≠ v) (k : ∀ K' N', xo3 K K' → RX K' N' (va_up S v (S w)) → Q none (xB h b K')) : ac g l mX11_take [.ref b, .int (nI v), .int (nI w)] (xB h b K) Q := by
  refine ac_of (by decide) (Nat.le_of_ble_eq_true rfl) ?_
  obtain ⟨w1, w2, w3, w4⟩ := hX.2 w hw
  refine sX11_take_0 rfl ?_
  refine nX11_take_1 ?_
  refine sX11_take_2 rfl ?_
  refine nX11_take_3 ?_
  refine nX11_take_4 ?_
  refine sX11_take_5 rfl ?_
  refine nX11_take_6 ?_
  refine tX11_take_7 hS (Nat.le_of_ble_eq_true rfl) ?_
  refine c_copy hS hX.1 (by omega) (by omega) (by omega) (fun K1 ho1 hN1 => ?_)
  have hX1 := RX_num hX ho1 hN1
  refine sX11_take_10 rfl ?_
  refine nX11_take_11 ?_
  refine sX11_take_12 rfl ?_
  refine nX11_take_13 ?_
  refine nX11_take_14 ?_
  refine nX11_take_15 ?_
  refine nX11_take_16 ?_
  refine sX11_take_17 rfl ?_
  refine nX11_take_18 ?_
  refine nX11_take_19 ?_
  refine nX11_take_20 ?_
  refine tX11_take_21 hS (Nat.le_of_ble_eq_true rfl) ?_
  refine c_copy hS hN1 (by omega) (by omega) (by omega) (fun K2 ho2 hN2 => ?_)
  have hX2 := RX_den hX1 ho2 hN2
  rw [vup_n (show 2 * w + 1 ≠ 2 * v by omega)] at hX2
  refine sX11_take_24 rfl ?_
  refine tX11_take_25 hS ?_
  refine sX11_take_28 rfl ?_
  refine sX11_take_29 rfl ?_
  refine tX11_take_30 hS ?_
  refine sX11_take_33 rfl ?_
  refine tX11_take_34 hS (by decide) (by decide) rfl (by simp only [rl]; omega) ?_
  have hs2 : K2 2 w = (S w).1 := by rw [ho2 2 (by omega), ho1 2 (by omega)]; exact w3
  rw [hs2]
  refine tX11_take_35 hS (by decide) (by decide) rfl (by simp only [rl]; omega) ?_
  refine nX11_take_36 ?_
  refine sX11_take_37 ?_
  have hX3 := RX_sgn (v := v) (s := (S w).1) hX2
  simp only [vup_s, vup_vup] at hX3
  suffices H : ∀ t i K3 N3 p, i + t = 8 → (∀ j, j < i → p j = (S w).2.2.2 j) → xo3 K K3 → RX K3 N3 (va_up S v ((S w).1, N (2 * w), N (2 * w + 1), p)) → aw g l mX11_take 38 [(0, .ref b), (1, .int (nI v)), (2, .int (nI w)), (3, .int (nI i))] [] (xB h b K3) Q from H 8 0 _ _ _ rfl (fun j hj => absurd hj (by omega)) (xo3_tr (xo3_1 ho1) (xo3_tr (xo3_1 ho2) (xo3_up (by omega)))) hX3
  intro t
  induction t with
  | zero =>
    intro i K3 N3 p hi hp ho3 hR
    obtain rfl : i = 8 := by omega
    refine sX11_take_38 rfl ?_
    refine nX11_take_39 ?_
    refine nX11_take_41 (by omega) (by omega) (fun _ => ?_) (fun hc => absurd hc (by omega))
    refine sX11_take_72 ?_
    exact k K3 N3 ho3 (RX_v hR ⟨rfl, w1, w2, fun j hj => hp j hj⟩)
  | succ t ih =>
    intro i K3 N3 p hi hp ho3 hR
    refine sX11_take_38 rfl ?_
    refine nX11_take_39 ?_
    refine nX11_take_41 (by omega) (by omega) (fun hc => absurd hc (by omega)) (fun _ => ?_)
    refine sX11_take_44 rfl ?_
    refine tX11_take_45 hS ?_
    refine nX11_take_48 ?_
    refine sX11_take_50 rfl ?_
    refine nX11_take_51 ?_
    refine sX11_take_52 rfl ?_
    refine nX11_take_53 ?_
    refine sX11_take_54 rfl ?_
    refine tX11_take_55 hS ?_
    refine nX11_take_58 ?_
    refine sX11_take_60 rfl ?_
    refine nX11_take_61 ?_
    refine sX11_take_62 rfl ?_
    refine nX11_take_63 ?_
    refine tX11_take_64 hS (by decide) (by decide) rfl (by simp only [rl]; omega) ?_
    have e1 := (hR.2 w hw).2.2.2 i (by omega)
    rw [vup_n hne] at e1
    rw [e1]
    refine tX11_take_65 hS (by decide) (by decide) rfl (by simp only [rl]; omega) ?_
    refine nX11_take_66 rfl ?_
    refine sX11_take_69 ?_
    have hR2 := RX_pow (v := v) (i := i) (s := (S w).2.2.2 i) hR (by omega)
    simp only [vup_s, vup_vup] at hR2
    refine ih (i + 1) _ N3 (va_up p i ((S w).2.2.2 i)) (by omega) (fun j hj => ?_) (xo3_tr ho3 (xo3_up (by omega))) hR2
    by_cases e : j = i
    · subst e; exact vup_s
    · rw [vup_n e]; exact hp j (by omega)
theorem c_reduce {v : Nat} (hS : RS h b) (hX : RX K N S) (hv : v < 168) (hd0 : 0 < (S v).2.2.1) (hdB : 2 * (S v).2.2.1 ≤ zB 80) (k : ∀ K' N', xo3 K K' → RX K' N' (va_up S v (vRed (S v))) → Q none (xB h b K')) : ac g l mX11_reduce [.ref b, .int (nI v)] (xB h b K) Q := by
  refine ac_of (by decide) (Nat.le_of_ble_eq_true rfl) ?_
  obtain ⟨w1, w2, w3, w4⟩ := hX.2 v hv
  refine sX11_reduce_0 rfl ?_
  refine nX11_reduce_1 ?_
  refine sX11_reduce_2 rfl ?_
  refine nX11_reduce_3 ?_
  refine tX11_reduce_4 hS (Nat.le_of_ble_eq_true rfl) ?_
  refine c_isZero hS hX.1 (by omega) (fun hz => ?_) (fun hz => ?_)
  · refine sX11_reduce_7 (fun hc => absurd hc (by decide)) (fun _ => ?_)
    refine sX11_reduce_10 rfl ?_
    refine tX11_reduce_11 hS ?_
    refine sX11_reduce_14 rfl ?_
    refine nX11_reduce_15 ?_
    refine tX11_reduce_16 hS (by decide) (by decide) rfl (by simp only [rl]; omega) ?_
    refine sX11_reduce_17 rfl ?_
    refine nX11_reduce_18 ?_
    refine sX11_reduce_19 rfl ?_
    refine nX11_reduce_20 ?_
    refine nX11_reduce_21 ?_
    refine nX11_reduce_22 ?_
    refine nX11_reduce_23 ?_
    refine tX11_reduce_24 hS (Nat.le_of_ble_eq_true rfl) ?_
    have hX1 := RX_sgn (v := v) (s := nI 0) hX
    refine c_setSmall hS hX1.1 (by omega) (by decide) (fun K2 ho2 hN2 => ?_)
    have hX2 := RX_den hX1 ho2 hN2
    simp only [vup_s, vup_vup] at hX2
    refine sX11_reduce_27 ?_
    refine k K2 _ (xo3_tr (xo3_up (by omega)) (xo3_1 ho2)) (RX_v hX2 ?_)
    unfold vRed
    rw [if_pos (by rw [← w1]; exact hz)]
    exact ⟨rfl, by show (S v).2.1 = 0; rw [← w1]; exact hz, rfl, fun _ _ => rfl⟩
  · refine sX11_reduce_7 (fun _ => ?_) (fun hc => absurd rfl hc)
    have hr : vRed (S v) = ((S v).1, (S v).2.1 / Nat.gcd (S v).2.1 (S v).2.2.1, (S v).2.2.1 / Nat.gcd (S v).2.1 (S v).2.2.1, (S v).2.2.2) := by
      unfold vRed
      rw [if_neg (by rw [← w1]; exact hz)]
    rw [hr] at k
    rw [w1] at hz
    refine sX11_reduce_28 rfl ?_
    refine nX11_reduce_29 ?_
    refine sX11_reduce_30 rfl ?_
    refine nX11_reduce_31 ?_
    refine nX11_reduce_32 ?_
    refine sX11_reduce_33 rfl ?_
    refine nX11_reduce_34 ?_
    refine nX11_reduce_35 ?_
    refine nX11_reduce_36 ?_
    refine tX11_reduce_37 hS (Nat.le_of_ble_eq_true rfl) ?_
    refine c_common hS hX.1 (by omega) (by omega) (by rw [w1]; omega) (by rw [w2]; exact hd0) (fun K1 N1 ho1 hN1 hz1 hg1 => ?_)
    rw [w1, w2] at hg1
    have hX1 := RX_scr hX ho1 hN1 hz1
    have hgp : 0 < Nat.gcd (S v).2.1 (S v).2.2.1 := Nat.gcd_pos_of_pos_right _ hd0
    have hgle : Nat.gcd (S v).2.1 (S v).2.2.1 ≤ (S v).2.2.1 := Nat.gcd_le_right _ hd0
    refine sX11_reduce_40 rfl ?_
    refine nX11_reduce_41 ?_
    refine tX11_reduce_44 hS (Nat.le_of_ble_eq_true rfl) ?_
    refine c_isOne hS hN1 (by omega) (fun h1 => ?_) (fun h1 => ?_)
    · refine sX11_reduce_47 (fun hc => absurd hc (by decide)) (fun _ => ?_)
      refine sX11_reduce_50 ?_
      rw [hg1] at h1
      refine k K1 N1 (xo3_1 ho1) ?_
      rw [h1, Nat.div_one, Nat.div_one]
      show RX K1 N1 (va_up S v (S v))
      rw [vup_id]
      exact hX1
    · refine sX11_reduce_47 (fun _ => ?_) (fun hc => absurd rfl hc)
      refine sX11_reduce_51 rfl ?_
      refine nX11_reduce_52 ?_
      refine nX11_reduce_55 ?_
      refine sX11_reduce_56 rfl ?_
      refine nX11_reduce_57 ?_
      refine nX11_reduce_58 ?_
      refine tX11_reduce_61 hS (Nat.le_of_ble_eq_true rfl) ?_
      refine c_divide hS hN1 (by omega) (by omega) (by omega) (by omega) (by omega) (by rw [hg1]; exact hgp) (by rw [hg1]; omega) (fun K2 ho2 hN2 => ?_)
      obtain ⟨y1, y2, y3, y4⟩ := hX1.2 v hv
      rw [hg1, y1] at hN2
      have hX2 := RX_scr hX1 ho2 hN2 (zk_tr (zk_up (by omega)) (zk_up (by omega)))
      refine sX11_reduce_64 rfl ?_
      refine nX11_reduce_65 ?_
      refine sX11_reduce_66 rfl ?_
      refine nX11_reduce_67 ?_
      refine nX11_reduce_68 ?_
      refine tX11_reduce_71 hS (Nat.le_of_ble_eq_true rfl) ?_
      refine c_copy hS hN2 (by omega) (by omega) (by omega) (fun K3 ho3 hN3 => ?_)
      rw [zup_n (show (340 : Nat) ≠ 341 by omega), zup_s] at hN3
      have hX3 := RX_num hX2 ho3 hN3
      refine sX11_reduce_74 rfl ?_
      refine nX11_reduce_75 ?_
      refine nX11_reduce_78 ?_
      refine sX11_reduce_79 rfl ?_
      refine nX11_reduce_80 ?_
      refine nX11_reduce_81 ?_
      refine nX11_reduce_82 ?_
      refine nX11_reduce_83 ?_
      refine tX11_reduce_86 hS (Nat.le_of_ble_eq_true rfl) ?_
      have e339 : va_up (va_up (va_up N1 340 ((S v).2.1 / Nat.gcd (S v).2.1 (S v).2.2.1)) 341 ((S v).2.1 % Nat.gcd (S v).2.1 (S v).2.2.1)) (2 * v) ((S v).2.1 / Nat.gcd (S v).2.1 (S v).2.2.1) 339 = Nat.gcd (S v).2.1 (S v).2.2.1 := by
        rw [zup_n (by omega), zup_n (by omega), zup_n (by omega), hg1]
      refine c_divide hS hN3 (by omega) (by omega) (by omega) (by omega) (by omega) (by rw [e339]; exact hgp) (by rw [e339]; omega) (fun K4 ho4 hN4 => ?_)
      rw [e339] at hN4
      have hX4 := RX_scr hX3 ho4 hN4 (zk_tr (zk_up (by omega)) (zk_up (by omega)))
      have e2v : (va_up (va_up (va_up N1 340 ((S v).2.1 / Nat.gcd (S v).2.1 (S v).2.2.1)) 341 ((S v).2.1 % Nat.gcd (S v).2.1 (S v).2.2.1)) (2 * v) ((S v).2.1 / Nat.gcd (S v).2.1 (S v).2.2.1)) (2 * v + 1) = (S v).2.2.1 := by
        rw [zup_n (by omega), zup_n (by omega), zup_n (by omega), y2]
      rw [e2v] at hX4 hN4
      refine sX11_reduce_89 rfl ?_
      refine nX11_reduce_90 ?_
      refine sX11_reduce_91 rfl ?_
      refine nX11_reduce_92 ?_
      refine nX11_reduce_93 ?_
      refine nX11_reduce_94 ?_
      refine nX11_reduce_95 ?_
      refine tX11_reduce_98 hS (Nat.le_of_ble_eq_true rfl) ?_
      refine c_copy hS hN4 (by omega) (by omega) (by omega) (fun K5 ho5 hN5 => ?_)
      rw [zup_n (show (340 : Nat) ≠ 341 by omega), zup_s] at hN5
      have hX5 := RX_den hX4 ho5 hN5
      simp only [vup_s, vup_vup] at hX5
      refine sX11_reduce_101 ?_
      exact k K5 _ (xo3_1 (xo1_tr ho1 (xo1_tr ho2 (xo1_tr ho3 (xo1_tr ho4 ho5))))) hX5
theorem zL_le {x L B : Nat} (h : zL x L) : B < L ↔ 2 ^ B ≤ x := by
  constructor
  · intro hlt
    rcases h.2 with r | r
    · omega
    · exact Nat.le_trans (Nat.pow_le_pow_right (by decide) (by omega)) r
  · intro hle
    rcases Nat.lt_or_ge B L with q | q
    · exact q
    · have := Nat.pow_le_pow_right (show 0 < 2 by decide) q
      have := h.1
      omega
theorem zL_small {x L : Nat} (h : zL x L) (hx : x < zB 80) : L ≤ 1200 := by
  rcases Nat.lt_or_ge 1200 L with q | q
  · have := (zL_le h).mp q
    rw [zB_two] at hx
    have e : 15 * 80 = 1200 := rfl
    rw [e] at hx
    omega
  · exact q
theorem c_isLarge {v B : Nat} (hS : RS h b) (hX : RX K N S) (hv : v < 168) (hB : K 0 0 = nI B) (hB2 : B ≤ 512) (k1 : vBig B (S v) → Q (some (.int 1)) (xB h b K)) (k0 : ¬ vBig B (S v) → Q (some (.int 0)) (xB h b K)) : ac g l mX11_isLarge [.ref b, .int (nI v)] (xB h b K) Q := by
  refine ac_of (by decide) (Nat.le_of_ble_eq_true rfl) ?_
  obtain ⟨w1, w2, w3, w4⟩ := hX.2 v hv
  have big : vBig B (S v) → aw g l mX11_isLarge 30 (lv_args 0 [.ref b, .int (nI v)]) [] (xB h b K) Q := by
    intro hb
    refine sX11_isLarge_30 ?_
    refine sX11_isLarge_31 ?_
    exact sX11_isLarge_35 (Or.inr rfl) (k1 hb)
  refine sX11_isLarge_0 rfl ?_
  refine nX11_isLarge_1 ?_
  refine sX11_isLarge_2 rfl ?_
  refine nX11_isLarge_3 ?_
  refine tX11_isLarge_4 hS (Nat.le_of_ble_eq_true rfl) ?_
  refine c_length hS hX.1 (by omega) (fun L hL => ?_)
  have hLs := zL_small hL (hX.1 _ (by omega)).1
  rw [w1] at hL
  refine sX11_isLarge_7 rfl ?_
  refine tX11_isLarge_8 hS ?_
  rw [hB]
  refine nX11_isLarge_11 (by omega) (by omega) (fun hc => big (Or.inl ((zL_le hL).mp hc))) (fun hc => ?_)
  refine sX11_isLarge_14 rfl ?_
  refine nX11_isLarge_15 ?_
  refine sX11_isLarge_16 rfl ?_
  refine nX11_isLarge_17 ?_
  refine nX11_isLarge_18 ?_
  refine nX11_isLarge_19 ?_
  refine tX11_isLarge_20 hS (Nat.le_of_ble_eq_true rfl) ?_
  refine c_length hS hX.1 (by omega) (fun L2 hL2 => ?_)
  have hLs2 := zL_small hL2 (hX.1 _ (by omega)).1
  rw [w2] at hL2
  refine sX11_isLarge_23 rfl ?_
  refine tX11_isLarge_24 hS ?_
  rw [hB]
  refine nX11_isLarge_27 (by omega) (by omega) (fun hc2 => ?_) (fun hc2 => big (Or.inr ((zL_le hL2).mp hc2)))
  refine sX11_isLarge_34 ?_
  refine sX11_isLarge_35 (Or.inl rfl) (k0 ?_)
  rintro (q | q)
  · have := (zL_le hL).mpr q; omega
  · have := (zL_le hL2).mpr q; omega
theorem c_arePowers {v : Nat} (hS : RS h b) (hv : v < 168) {p : Nat → Int32} (hp : ∀ j, j < 8 → K 3 (8 * v + j) = p j) (k1 : pOk p → Q (some (.int 1)) (xB h b K)) (k0 : ¬ pOk p → Q (some (.int 0)) (xB h b K)) : ac g l mX11_arePowers [.ref b, .int (nI v)] (xB h b K) Q := by
  refine ac_of (by decide) (Nat.le_of_ble_eq_true rfl) ?_
  refine nX11_arePowers_0 ?_
  refine sX11_arePowers_1 ?_
  suffices H : ∀ t i, i + t = 8 → (∀ j, j < i → ¬ p j < -99 ∧ ¬ 99 < p j) → aw g l mX11_arePowers 2 [(0, .ref b), (1, .int (nI v)), (2, .int (nI i))] [] (xB h b K) Q from H 8 0 rfl (fun j hj => absurd hj (by omega))
  intro t
  induction t with
  | zero =>
    intro i hi hz
    obtain rfl : i = 8 := by omega
    refine sX11_arePowers_2 rfl ?_
    refine nX11_arePowers_3 ?_
    refine nX11_arePowers_5 (by omega) (by omega) (fun _ => ?_) (fun hc => absurd hc (by omega))
    refine sX11_arePowers_48 ?_
    exact sX11_arePowers_49 (Or.inr rfl) (k1 (fun j hj => hz j hj))
  | succ t ih =>
    intro i hi hz
    refine sX11_arePowers_2 rfl ?_
    refine nX11_arePowers_3 ?_
    refine nX11_arePowers_5 (by omega) (by omega) (fun hc => absurd hc (by omega)) (fun _ => ?_)
    have bad : ¬ (¬ p i < -99 ∧ ¬ 99 < p i) → aw g l mX11_arePowers 40 [(0, .ref b), (1, .int (nI v)), (2, .int (nI i))] [] (xB h b K) Q := by
      intro hb
      refine sX11_arePowers_40 ?_
      exact sX11_arePowers_41 (Or.inl rfl) (k0 (fun hq => hb (hq i (by omega))))
    refine sX11_arePowers_8 rfl ?_
    refine tX11_arePowers_9 hS ?_
    refine nX11_arePowers_12 ?_
    refine sX11_arePowers_14 rfl ?_
    refine nX11_arePowers_15 ?_
    refine sX11_arePowers_16 rfl ?_
    refine nX11_arePowers_17 ?_
    refine tX11_arePowers_18 hS (by decide) (by decide) rfl (by simp only [rl]; omega) ?_
    rw [hp i (by omega)]
    refine sX11_arePowers_19 ?_
    refine sX11_arePowers_21 (fun hc => bad (fun hq => hq.1 hc)) (fun hc => ?_)
    refine sX11_arePowers_24 rfl ?_
    refine tX11_arePowers_25 hS ?_
    refine nX11_arePowers_28 ?_
    refine sX11_arePowers_30 rfl ?_
    refine nX11_arePowers_31 ?_
    refine sX11_arePowers_32 rfl ?_
    refine nX11_arePowers_33 ?_
    refine tX11_arePowers_34 hS (by decide) (by decide) rfl (by simp only [rl]; omega) ?_
    rw [hp i (by omega)]
    refine sX11_arePowers_35 ?_
    refine sX11_arePowers_37 (fun hc2 => ?_) (fun hc2 => bad (fun hq => hq.2 (Int32.not_le.mp hc2)))
    refine nX11_arePowers_42 rfl ?_
    refine sX11_arePowers_45 ?_
    refine ih (i + 1) (by omega) (fun j hj => ?_)
    by_cases e : j = i
    · subst e; exact ⟨hc, Int32.not_lt.mpr hc2⟩
    · exact hz j (by omega)
theorem c_areAlike {v w : Nat} (hS : RS h b) (hv : v < 168) (hw : w < 168) {p q : Nat → Int32} (hp : ∀ j, j < 8 → K 3 (8 * v + j) = p j) (hq : ∀ j, j < 8 → K 3 (8 * w + j) = q j) (k1 : pEq p q → Q (some (.int 1)) (xB h b K)) (k0 : ¬ pEq p q → Q (some (.int 0)) (xB h b K)) : ac g l mX11_areAlike [.ref b, .int (nI v), .int (nI w)] (xB h b K) Q := by
  refine ac_of (by decide) (Nat.le_of_ble_eq_true rfl) ?_
  refine nX11_areAlike_0 ?_
  refine sX11_areAlike_1 ?_
  suffices H : ∀ t i, i + t = 8 → (∀ j, j < i → p j = q j) → aw g l mX11_areAlike 2 [(0, .ref b), (1, .int (nI v)), (2, .int (nI w)), (3, .int (nI i))] [] (xB h b K) Q from H 8 0 rfl (fun j hj => absurd hj (by omega))
  intro t
  induction t with
  | zero =>
    intro i hi hz
    obtain rfl : i = 8 := by omega
    refine sX11_areAlike_2 rfl ?_
    refine nX11_areAlike_3 ?_
    refine nX11_areAlike_5 (by omega) (by omega) (fun _ => ?_) (fun hc => absurd hc (by omega))
    refine sX11_areAlike_41 ?_
    exact sX11_areAlike_42 (Or.inr rfl) (k1 (fun j hj => hz j hj))
  | succ t ih =>
    intro i hi hz
    refine sX11_areAlike_2 rfl ?_
    refine nX11_areAlike_3 ?_
    refine nX11_areAlike_5 (by omega) (by omega) (fun hc => absurd hc (by omega)) (fun _ => ?_)
    refine sX11_areAlike_8 rfl ?_
    refine tX11_areAlike_9 hS ?_
    refine nX11_areAlike_12 ?_
    refine sX11_areAlike_14 rfl ?_
    refine nX11_areAlike_15 ?_
    refine sX11_areAlike_16 rfl ?_
    refine nX11_areAlike_17 ?_
    refine tX11_areAlike_18 hS (by decide) (by decide) rfl (by simp only [rl]; omega) ?_
    rw [hp i (by omega)]
    refine sX11_areAlike_19 rfl ?_
    refine tX11_areAlike_20 hS ?_
    refine nX11_areAlike_23 ?_
    refine sX11_areAlike_25 rfl ?_
    refine nX11_areAlike_26 ?_
    refine sX11_areAlike_27 rfl ?_
    refine nX11_areAlike_28 ?_
    refine tX11_areAlike_29 hS (by decide) (by decide) rfl (by simp only [rl]; omega) ?_
    rw [hq i (by omega)]
    refine sX11_areAlike_30 (fun hc => ?_) (fun hc => ?_)
    · refine nX11_areAlike_35 rfl ?_
      refine sX11_areAlike_38 ?_
      refine ih (i + 1) (by omega) (fun j hj => ?_)
      by_cases e : j = i
      · subst e; exact hc
      · exact hz j (by omega)
    · refine sX11_areAlike_33 ?_
      exact sX11_areAlike_34 (Or.inl rfl) (k0 (fun hq2 => hc (hq2 i (by omega))))
end RefVal
