section Told
variable {g : xG} {l : Launch} {h : xH} {b : Nat} {K : Nat → Nat → Int32} {J : Nat → Nat → Int32} {Q : Option Value → xH → Prop} {c x : Nat}
theorem c_name11 {n i : Int32} {so ln : Nat → Nat} {nm : Nat → Nat → Nat} (hS : RS h b) (h6 : K 0 6 = nI c) (hc : c ≤ 100) (hM : RM K so ln nm c) (k1 : ∀ j q, n = nI j → j < c → i = nI q → q < ln j → Q (some (.int (nI (nm j q)))) (xB h b K)) (k0 : (∀ j q, j < c → q < ln j → ¬ (n = nI j ∧ i = nI q)) → Q (some (.int (-1))) (xB h b K)) : ac g l mX11_name [.ref b, .int n, .int i] (xB h b K) Q := by
  refine ac_of (by decide) (Nat.le_of_ble_eq_true rfl) ?_
  have no : (∀ j q, j < c → q < ln j → ¬ (n = nI j ∧ i = nI q)) → aw g l mX11_name 36 (lv_args 0 [.ref b, .int n, .int i]) [] (xB h b K) Q := fun z => by
    refine sX11_name_36 ?_
    exact sX11_name_37 (k0 z)
  refine sX11_name_0 rfl ?_
  refine sX11_name_1 rfl ?_
  refine tX11_name_2 hS (Nat.le_of_ble_eq_true rfl) ?_
  refine c_isDef11 hS h6 hc (fun j e hj => ?_) (fun z => ?_)
  · subst e
    refine sX11_name_5 (fun z => absurd z (by decide)) (fun _ => ?_)
    obtain ⟨-, ⟨b1, b2, b3⟩, c1⟩ := hM.2 j hj
    refine sX11_name_8 rfl ?_
    rcases i32c i with z | ⟨q, rfl, hq⟩
    · refine sX11_name_9 (fun _ => no (fun j' q' hj' hq' e => ?_)) (fun y => absurd z y)
      have := (hM.2 j' hj').2.1.2.2
      rw [e.2] at z; exact absurd z (n_lt0 (by omega))
    · refine nX11_name_9 hq ?_
      refine sX11_name_12 rfl ?_
      refine sX11_name_13 rfl ?_
      refine tX11_name_14 hS ?_
      refine sX11_name_17 rfl ?_
      refine tX11_name_18 hS (by decide) (by decide) rfl (show j < 210 by omega) ?_
      rw [b1]
      refine nX11_name_19 hq (by omega) (fun z => no (fun j' q' hj' hq' e => ?_)) (fun z => ?_)
      · have e1 := (nI_eq (by omega) (by omega)).mp e.1
        have := (hM.2 j' hj').2.1.2.2
        have e2 := (nI_eq hq (by omega)).mp e.2
        subst e1; subst e2; omega
      · refine sX11_name_22 rfl ?_
        refine tX11_name_23 hS ?_
        refine nX11_name_26 ?_
        refine sX11_name_28 rfl ?_
        refine nX11_name_29 ?_
        refine sX11_name_30 rfl ?_
        refine nX11_name_31 ?_
        refine tX11_name_32 hS (by decide) (by decide) rfl (show 24 * j + q < 5040 by omega) ?_
        rw [(c1 q z).1]
        refine sX11_name_33 ?_
        exact sX11_name_37 (k1 j q rfl hj rfl z)
  · refine sX11_name_5 (fun _ => no (fun j q hj _ e => z j hj e.1)) (fun z => absurd rfl z)
theorem c_told10 {n : Int32} (hM : CM h x) (hQ : CW h (x + 2)) (k : Q (some (.int (if n = 0 then J x 2 else if n = 1 then J (x + 2) 9 else if n = 2 then J (x + 2) 10 else if n = 3 then J x 0 else if n = 4 then J x 10 else -1))) (xJ h J)) : ac g l mX10_told [.ref x, .int n] (xJ h J) Q := by
  refine ac_of (by decide) (Nat.le_of_ble_eq_true rfl) ?_
  have t1 := hM.1
  have p3 := hM.2.1.2.1
  have tw := hQ.1
  refine sX10_told_0 rfl ?_
  refine sX10_told_1 ?_
  unfold wX10_told_1
  by_cases z0 : n = 0
  · rw [if_pos z0] at k ⊢
    refine sX10_told_36 rfl ?_
    refine jX10_told_37 (by assumption) ?_
    exact sX10_told_40 k
  rw [if_neg z0] at k ⊢
  by_cases z1 : n = 1
  · rw [if_pos z1] at k ⊢
    refine sX10_told_41 rfl ?_
    refine jX10_told_42 (by assumption) (by assumption) ?_
    refine jX10_told_45 (by assumption) ?_
    exact sX10_told_48 k
  rw [if_neg z1] at k ⊢
  by_cases z2 : n = 2
  · rw [if_pos z2] at k ⊢
    refine sX10_told_49 rfl ?_
    refine jX10_told_50 (by assumption) (by assumption) ?_
    refine jX10_told_53 (by assumption) ?_
    exact sX10_told_56 k
  rw [if_neg z2] at k ⊢
  by_cases z3 : n = 3
  · rw [if_pos z3] at k ⊢
    refine sX10_told_57 rfl ?_
    refine jX10_told_58 (by assumption) ?_
    exact sX10_told_61 k
  rw [if_neg z3] at k ⊢
  by_cases z4 : n = 4
  · rw [if_pos z4] at k ⊢
    refine sX10_told_62 rfl ?_
    refine jX10_told_63 (by assumption) ?_
    exact sX10_told_66 k
  rw [if_neg z4] at k ⊢
  refine sX10_told_67 ?_
  exact sX10_told_68 k
theorem c_told11 {n : Int32} {so : Nat → Nat} (hS : RS h b) (h6 : K 0 6 = nI c) (hc : c ≤ 100) (hs : ∀ k, k < c → K 5 k = nI (so k) ∧ so k ≤ 2) (k : Q (some (.int (if n = 0 then K 0 5 else if n = 1 then nI c else if n = 2 then nI (nb so c) else if n = 3 then K 0 0 else if n = 4 then K 0 19 else -1))) (xB h b K)) : ac g l mX11_told [.ref b, .int n] (xB h b K) Q := by
  refine ac_of (by decide) (Nat.le_of_ble_eq_true rfl) ?_
  refine sX11_told_0 rfl ?_
  refine sX11_told_1 ?_
  unfold wX11_told_1
  by_cases z0 : n = 0
  · rw [if_pos z0] at k ⊢
    refine sX11_told_36 rfl ?_
    refine tX11_told_37 hS ?_
    exact sX11_told_40 k
  rw [if_neg z0] at k ⊢
  by_cases z1 : n = 1
  · rw [if_pos z1] at k ⊢
    refine sX11_told_41 rfl ?_
    refine tX11_told_42 hS ?_
    rw [h6]
    exact sX11_told_45 k
  rw [if_neg z1] at k ⊢
  by_cases z2 : n = 2
  · rw [if_pos z2] at k ⊢
    refine sX11_told_46 rfl ?_
    refine nX11_told_47 ?_
    refine sX11_told_48 rfl ?_
    refine tX11_told_49 hS ?_
    rw [h6]
    refine tX11_told_52 hS (Nat.le_of_ble_eq_true rfl) ?_
    refine c_count11 hS hc hs ?_
    exact sX11_told_55 k
  rw [if_neg z2] at k ⊢
  by_cases z3 : n = 3
  · rw [if_pos z3] at k ⊢
    refine sX11_told_56 rfl ?_
    refine tX11_told_57 hS ?_
    exact sX11_told_60 k
  rw [if_neg z3] at k ⊢
  by_cases z4 : n = 4
  · rw [if_pos z4] at k ⊢
    refine sX11_told_61 rfl ?_
    refine tX11_told_62 hS ?_
    exact sX11_told_65 k
  rw [if_neg z4] at k ⊢
  refine sX11_told_66 ?_
  exact sX11_told_67 k
end Told
