section Get1
variable {g : xG} {l : Launch} {h : xH} {J : Nat → Nat → Int32} {Q : Option Value → xH → Prop} {c x : Nat}
theorem c_sort10 {n : Int32} (hM : CM h x) (hQ : CW h (x + 2)) (h9 : J (x + 2) 9 = nI c) (hc : c ≤ 100) (k1 : ∀ j, n = nI j → j < c → Q (some (.int (J (x + 8) j))) (xJ h J)) (k0 : (∀ j, j < c → n ≠ nI j) → Q (some (.int (-1))) (xJ h J)) : ac g l mX10_sort [.ref x, .int n] (xJ h J) Q := by
  refine ac_of (by decide) (Nat.le_of_ble_eq_true rfl) ?_
  have t1 := hM.1
  have p3 := hM.2.1.2.1
  obtain ⟨tw, ⟨-, -, p2, -⟩, -, ⟨t6, -⟩, -⟩ := id hQ
  refine sX10_sort_0 rfl ?_
  refine jX10_sort_1 (by assumption) (by assumption) ?_
  refine sX10_sort_4 rfl ?_
  refine jX10_sort_5 (Nat.le_of_ble_eq_true rfl) (by assumption) ?_
  refine c_has1 hQ h9 hc (fun j e hj => ?_) (fun z => ?_)
  · subst e
    refine sX10_sort_8 (fun z => absurd z (by decide)) (fun _ => ?_)
    refine sX10_sort_11 rfl ?_
    refine jX10_sort_12 (by assumption) (by assumption) ?_
    refine jX10_sort_15 (by assumption) (by assumption) ?_
    refine sX10_sort_18 rfl ?_
    refine jX10_sort_19 (by assumption) (by omega) (by omega) ?_
    refine sX10_sort_20 ?_
    exact sX10_sort_24 (k1 j rfl hj)
  · refine sX10_sort_8 (fun _ => ?_) (fun z => absurd rfl z)
    refine sX10_sort_23 ?_
    exact sX10_sort_24 (k0 z)
theorem c_faultOf10 {n : Int32} {L L' : Nat} (hM : CM h x) (hQ : CW h (x + 2)) (hR : CR h (x + 32) L L') (h9 : J (x + 2) 9 = nI c) (hc : c ≤ 100) (k1 : ∀ j, n = nI j → j < c → Q (some (.int (J (L + 2) j))) (xJ h J)) (k0 : (∀ j, j < c → n ≠ nI j) → Q (some (.int (-1))) (xJ h J)) : ac g l mX10_faultOf [.ref x, .int n] (xJ h J) Q := by
  refine ac_of (by decide) (Nat.le_of_ble_eq_true rfl) ?_
  have t1 := hM.1
  have p3 := hM.2.1.2.1
  have p5 := hM.2.1.2.2.2.1
  have tw := hQ.1
  obtain ⟨t7, ⟨-, q1, -⟩, -, -, ⟨t4, ⟨l0, l1, l2⟩, u1, u2, u3, -⟩, -, -⟩ := hR
  refine sX10_faultOf_0 rfl ?_
  refine jX10_faultOf_1 (by assumption) (by assumption) ?_
  refine sX10_faultOf_4 rfl ?_
  refine jX10_faultOf_5 (Nat.le_of_ble_eq_true rfl) (by assumption) ?_
  refine c_has1 hQ h9 hc (fun j e hj => ?_) (fun z => ?_)
  · subst e
    refine sX10_faultOf_8 (fun z => absurd z (by decide)) (fun _ => ?_)
    refine sX10_faultOf_11 rfl ?_
    refine jX10_faultOf_12 (by assumption) (by assumption) ?_
    refine jX10_faultOf_15 (by assumption) (by assumption) ?_
    refine jX10_faultOf_18 (by assumption) (by assumption) ?_
    refine sX10_faultOf_21 rfl ?_
    refine jX10_faultOf_22 (by assumption) (by omega) (by omega) ?_
    refine sX10_faultOf_23 ?_
    exact sX10_faultOf_27 (k1 j rfl hj)
  · refine sX10_faultOf_8 (fun _ => ?_) (fun z => absurd rfl z)
    refine sX10_faultOf_26 ?_
    exact sX10_faultOf_27 (k0 z)
theorem c_name10 {n i : Int32} {so ln np : Nat → Nat} {nm : Nat → Nat → Nat} {T : Nat → Nat} (hM : CM h x) (hQ : CW h (x + 2)) (hT : WT J (x + 2) T) (hN : WN J (x + 2) so ln np nm T c) (k1 : ∀ j q, n = nI j → j < c → i = nI q → q < ln j → Q (some (.int (sb (nm j q)))) (xJ h J)) (k0 : (∀ j q, j < c → q < ln j → ¬ (n = nI j ∧ i = nI q)) → Q (some (.int (-1))) (xJ h J)) : ac g l mX10_name [.ref x, .int n, .int i] (xJ h J) Q := by
  refine ac_of (by decide) (Nat.le_of_ble_eq_true rfl) ?_
  have t1 := hM.1
  have p3 := hM.2.1.2.1
  obtain ⟨h9, hc, n3⟩ := hN
  obtain ⟨tw, ⟨-, -, -, w3, w4, -⟩, -, ⟨-, t7, t8, -⟩, -⟩ := id hQ
  have no : (∀ j q, j < c → q < ln j → ¬ (n = nI j ∧ i = nI q)) → aw g l mX10_name 28 (lv_args 0 [.ref x, .int n, .int i]) [] (xJ h J) Q := fun z => by
    refine sX10_name_28 ?_
    exact sX10_name_29 (k0 z)
  refine sX10_name_0 rfl ?_
  refine jX10_name_1 (by assumption) (by assumption) ?_
  refine sX10_name_4 rfl ?_
  refine jX10_name_5 (Nat.le_of_ble_eq_true rfl) (by assumption) ?_
  refine c_has1 hQ h9 hc (fun j e hj => ?_) (fun z => ?_)
  · subst e
    refine sX10_name_8 (fun z => absurd z (by decide)) (fun _ => ?_)
    obtain ⟨-, ⟨b1, b2, b3⟩, ⟨c1, c2⟩, d1⟩ := n3 j hj
    refine sX10_name_11 rfl ?_
    rcases i32c i with z | ⟨q, rfl, hq⟩
    · refine sX10_name_12 (fun _ => no (fun j' q' hj' hq' e => ?_)) (fun y => absurd z y)
      have := (n3 j' hj').2.1.2.2
      rw [e.2] at z; exact absurd z (n_lt0 (by omega))
    · refine nX10_name_12 hq ?_
      refine sX10_name_15 rfl ?_
      refine sX10_name_16 rfl ?_
      refine jX10_name_17 (by assumption) (by assumption) ?_
      refine jX10_name_20 (by assumption) (by assumption) ?_
      refine sX10_name_23 rfl ?_
      refine jX10_name_24 (by assumption) (by omega) (by omega) ?_
      rw [b1]
      refine nX10_name_25 hq (by omega) (fun z => ?_) (fun z => no (fun j' q' hj' hq' e => ?_))
      · refine sX10_name_30 rfl ?_
        refine jX10_name_31 (by assumption) (by assumption) ?_
        refine sX10_name_34 rfl ?_
        refine jX10_name_35 (by assumption) (by assumption) ?_
        refine jX10_name_38 (by assumption) (by assumption) ?_
        refine sX10_name_41 rfl ?_
        refine jX10_name_42 (by assumption) (by omega) (by omega) ?_
        rw [c1]
        refine sX10_name_43 rfl ?_
        refine nX10_name_44 ?_
        refine jX10_name_45 (Nat.le_of_ble_eq_true rfl) (by assumption) ?_
        refine c_byteAt1 hQ hT (by omega) ?_
        rw [← d1 q z]
        exact sX10_name_48 (k1 j q rfl hj rfl z)
      · have e1 := (nI_eq (by omega) (by omega)).mp e.1
        have := (n3 j' hj').2.1.2.2
        have e2 := (nI_eq hq (by omega)).mp e.2
        subst e1; subst e2; omega
  · refine sX10_name_8 (fun _ => no (fun j q hj _ e => z j hj e.1)) (fun z => absurd rfl z)
end Get1
section Get2
variable {g : xG} {l : Launch} {h : xH} {b : Nat} {K : Nat → Nat → Int32} {Q : Option Value → xH → Prop} {c : Nat}
theorem c_isDef11 {n : Int32} (hS : RS h b) (h6 : K 0 6 = nI c) (hc : c ≤ 100) (k1 : ∀ j, n = nI j → j < c → Q (some (.int 1)) (xB h b K)) (k0 : (∀ j, j < c → n ≠ nI j) → Q (some (.int 0)) (xB h b K)) : ac g l mX11_isDefinition [.ref b, .int n] (xB h b K) Q := by
  refine ac_of (by decide) (Nat.le_of_ble_eq_true rfl) ?_
  have no : (∀ j, j < c → n ≠ nI j) → aw g l mX11_isDefinition 16 (lv_args 0 [.ref b, .int n]) [] (xB h b K) Q := fun z => by
    refine sX11_isDefinition_16 ?_
    exact sX11_isDefinition_17 (Or.inl rfl) (k0 z)
  refine sX11_isDefinition_0 rfl ?_
  rcases i32c n with z | ⟨j, rfl, hj⟩
  · refine sX11_isDefinition_1 (fun _ => no (fun j hj e => ?_)) (fun y => absurd z y)
    rw [e] at z; exact absurd z (n_lt0 (by omega))
  · refine nX11_isDefinition_1 hj ?_
    refine sX11_isDefinition_4 rfl ?_
    refine sX11_isDefinition_5 rfl ?_
    refine tX11_isDefinition_6 hS ?_
    rw [h6]
    refine nX11_isDefinition_9 hj (by omega) (fun y => no (fun i hi e => ?_)) (fun y => ?_)
    · have := (nI_eq hj (by omega)).mp e; omega
    · refine sX11_isDefinition_12 ?_
      refine sX11_isDefinition_13 ?_
      exact sX11_isDefinition_17 (Or.inr rfl) (k1 j rfl y)
theorem c_sort11 {n : Int32} (hS : RS h b) (h6 : K 0 6 = nI c) (hc : c ≤ 100) (k1 : ∀ j, n = nI j → j < c → Q (some (.int (K 5 j))) (xB h b K)) (k0 : (∀ j, j < c → n ≠ nI j) → Q (some (.int (-1))) (xB h b K)) : ac g l mX11_sort [.ref b, .int n] (xB h b K) Q := by
  refine ac_of (by decide) (Nat.le_of_ble_eq_true rfl) ?_
  refine sX11_sort_0 rfl ?_
  refine sX11_sort_1 rfl ?_
  refine tX11_sort_2 hS (Nat.le_of_ble_eq_true rfl) ?_
  refine c_isDef11 hS h6 hc (fun j e hj => ?_) (fun z => ?_)
  · subst e
    refine sX11_sort_5 (fun z => absurd z (by decide)) (fun _ => ?_)
    refine sX11_sort_8 rfl ?_
    refine tX11_sort_9 hS ?_
    refine sX11_sort_12 rfl ?_
    refine tX11_sort_13 hS (by decide) (by decide) rfl (show j < 210 by omega) ?_
    refine sX11_sort_14 ?_
    exact sX11_sort_18 (k1 j rfl hj)
  · refine sX11_sort_5 (fun _ => ?_) (fun z => absurd rfl z)
    refine sX11_sort_17 ?_
    exact sX11_sort_18 (k0 z)
theorem c_faultOf11 {n : Int32} (hS : RS h b) (h6 : K 0 6 = nI c) (hc : c ≤ 100) (k1 : ∀ j, n = nI j → j < c → Q (some (.int (K 12 j))) (xB h b K)) (k0 : (∀ j, j < c → n ≠ nI j) → Q (some (.int (-1))) (xB h b K)) : ac g l mX11_faultOf [.ref b, .int n] (xB h b K) Q := by
  refine ac_of (by decide) (Nat.le_of_ble_eq_true rfl) ?_
  refine sX11_faultOf_0 rfl ?_
  refine sX11_faultOf_1 rfl ?_
  refine tX11_faultOf_2 hS (Nat.le_of_ble_eq_true rfl) ?_
  refine c_isDef11 hS h6 hc (fun j e hj => ?_) (fun z => ?_)
  · subst e
    refine sX11_faultOf_5 (fun z => absurd z (by decide)) (fun _ => ?_)
    refine sX11_faultOf_8 rfl ?_
    refine tX11_faultOf_9 hS ?_
    refine sX11_faultOf_12 rfl ?_
    refine tX11_faultOf_13 hS (by decide) (by decide) rfl (show j < 210 by omega) ?_
    refine sX11_faultOf_14 ?_
    exact sX11_faultOf_18 (k1 j rfl hj)
  · refine sX11_faultOf_5 (fun _ => ?_) (fun z => absurd rfl z)
    refine sX11_faultOf_17 ?_
    exact sX11_faultOf_18 (k0 z)
theorem c_count11 {so : Nat → Nat} (hS : RS h b) (hc : c ≤ 100) (hs : ∀ k, k < c → K 5 k = nI (so k) ∧ so k ≤ 2) (k : Q (some (.int (nI (nb so c)))) (xB h b K)) : ac g l mX11_count [.ref b, .int (nI 0), .int (nI c)] (xB h b K) Q := by
  refine ac_of (by decide) (Nat.le_of_ble_eq_true rfl) ?_
  refine nX11_count_0 ?_
  refine sX11_count_1 ?_
  refine nX11_count_2 ?_
  refine sX11_count_3 ?_
  suffices H : ∀ f i (lv0 : List (Nat × Value)), i + f = c → (∀ z ∈ ([(0, .ref b), (1, .int (nI 0)), (2, .int (nI c)), (3, .int (nI (nb so i))), (4, .int (nI i))] : List (Nat × Value)), z ∈ lv0) → aw g l mX11_count 5 lv0 [] (xB h b K) Q from H c 0 _ (by omega) (fun z hz => by simp only [List.mem_cons, List.not_mem_nil, or_false] at hz; rcases hz with rfl | rfl | rfl | rfl | rfl <;> exact xlk_mem rfl)
  intro f
  induction f with
  | zero =>
    intro i lv0 hi hlv
    refine aw_lv hlv ?_
    refine sX11_count_5 rfl ?_
    refine sX11_count_7 rfl ?_
    refine nX11_count_8 (by omega) (by omega) (fun _ => ?_) (fun z => absurd z (by omega))
    rw [← show i = c by omega] at k
    refine sX11_count_36 rfl ?_
    exact sX11_count_37 k
  | succ f ih =>
    intro i lv0 hi hlv
    refine aw_lv hlv ?_
    obtain ⟨s1, s2⟩ := hs i (by omega)
    have nle := nb_le so i
    have last : ∀ (d : Nat) (lv1 : List (Nat × Value)), d = (if so i = 0 then 1 else 0) → (∀ z ∈ ([(0, .ref b), (1, .int (nI 0)), (2, .int (nI c)), (4, .int (nI i))] : List (Nat × Value)), z ∈ lv1) → aw g l mX11_count 28 lv1 [.int (nI d), .int (nI (nb so i))] (xB h b K) Q := by
      intro d lv1 hd hlv1
      refine aw_lv hlv1 ?_
      refine nX11_count_28 ?_
      refine sX11_count_29 ?_
      refine nX11_count_30 rfl ?_
      refine sX11_count_33 ?_
      refine ih (i + 1) _ (by omega) ?_
      rw [show nb so (i + 1) = nb so i + d by rw [hd]; rfl]
      exact (fun z hz => by simp only [List.mem_cons, List.not_mem_nil, or_false] at hz; rcases hz with rfl | rfl | rfl | rfl | rfl <;> exact xlk_mem rfl)
    refine sX11_count_5 rfl ?_
    refine sX11_count_7 rfl ?_
    refine nX11_count_8 (by omega) (by omega) (fun z => absurd z (by omega)) (fun _ => ?_)
    refine sX11_count_11 rfl ?_
    refine sX11_count_12 rfl ?_
    refine tX11_count_13 hS ?_
    refine sX11_count_16 rfl ?_
    refine tX11_count_18 hS (by decide) (by decide) rfl (by simp only [rl]; omega) ?_
    rw [s1]
    refine sX11_count_19 rfl ?_
    refine nX11_count_20 (by omega) (by omega) (fun z => ?_) (fun z => ?_)
    · refine nX11_count_27 ?_
      exact last 0 _ (by rw [if_neg z]) (fun z hz => by simp only [List.mem_cons, List.not_mem_nil, or_false] at hz; rcases hz with rfl | rfl | rfl | rfl <;> exact xlk_mem rfl)
    · refine nX11_count_23 ?_
      refine sX11_count_24 ?_
      exact last 1 _ (by rw [if_pos z]) (fun z hz => by simp only [List.mem_cons, List.not_mem_nil, or_false] at hz; rcases hz with rfl | rfl | rfl | rfl <;> exact xlk_mem rfl)
end Get2
