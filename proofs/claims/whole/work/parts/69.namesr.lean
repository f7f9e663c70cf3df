/-- the names in the reference's memory -/
def RM (K : Nat → Nat → Int32) (so ln : Nat → Nat) (nm : Nat → Nat → Nat) (c : Nat) : Prop := c ≤ 200 ∧ ∀ k, k < c → (K 5 k = nI (so k) ∧ so k ≤ 2) ∧ (K 8 k = nI (ln k) ∧ 0 < ln k ∧ ln k ≤ 24) ∧ ∀ i, i < ln k → K 7 (24 * k + i) = nI (nm k i) ∧ nm k i < 256
theorem oI_ge {k : Nat} (h : k < 2 ^ 31) : (0 : Int32) ≤ oI (some k) := nI_pos' h
section Names2
variable {g : xG} {l : Launch} {h : xH} {b : Nat} {K : Nat → Nat → Int32} {Q : Option Value → xH → Prop} {C : Nat → Nat} {m d n lo : Nat} {so ln : Nat → Nat} {nm : Nat → Nat → Nat} {c : Nat}
theorem c_isNamed {k a e : Nat} (hS : RS h b) (hT : RT K C m d n lo) (hM : RM K so ln nm c) (hk : k < c) (ha : lo + d ≤ a) (hae : a ≤ e) (he : e ≤ m) (k1 : nq ln nm C a (e - a) k = true → Q (some (.int 1)) (xB h b K)) (k0 : nq ln nm C a (e - a) k = false → Q (some (.int 0)) (xB h b K)) : ac g l mX11_isNamed [.ref b, .int (nI k), .int (nI (a - d)), .int (nI (e - d))] (xB h b K) Q := by
  refine ac_of (by decide) (Nat.le_of_ble_eq_true rfl) ?_
  have hm := hT.1.1
  have hC := hT.1
  have hc := hM.1
  obtain ⟨⟨a1, a2⟩, ⟨b1, b2, b3⟩, c1⟩ := hM.2 k hk
  refine sX11_isNamed_0 rfl ?_
  refine tX11_isNamed_1 hS ?_
  refine sX11_isNamed_4 rfl ?_
  refine tX11_isNamed_5 hS (by decide) (by decide) rfl (by simp only [rl]; omega) ?_
  rw [b1]
  refine sX11_isNamed_6 rfl ?_
  refine sX11_isNamed_7 rfl ?_
  refine nX11_isNamed_8 (by omega) ?_
  rw [show e - d - (a - d) = e - a by omega]
  refine nX11_isNamed_9 (by omega) (by omega) (fun z => ?_) (fun z => ?_)
  · refine nX11_isNamed_14 ?_
    refine sX11_isNamed_15 ?_
    suffices H : ∀ f i lv0, i + f = e - a → (∀ j, j < i → nm k j = C (a + j)) → (∀ z ∈ ([(0, .ref b), (1, .int (nI k)), (2, .int (nI (a - d))), (3, .int (nI (e - d))), (4, .int (nI i))] : List (Nat × Value)), z ∈ lv0) → aw g l mX11_isNamed 17 lv0 [] (xB h b K) Q from H (e - a) 0 _ (by omega) (fun j hj => by omega) (fun z hz => by simp only [List.mem_cons, List.not_mem_nil, or_false] at hz; rcases hz with rfl | rfl | rfl | rfl | rfl <;> exact xlk_mem rfl)
    intro f
    induction f with
    | zero =>
      intro i lv0 hi hj hlv
      refine aw_lv hlv ?_
      refine sX11_isNamed_17 rfl ?_
      refine sX11_isNamed_19 rfl ?_
      refine sX11_isNamed_20 rfl ?_
      refine nX11_isNamed_21 (by omega) ?_
      rw [show e - d - (a - d) = e - a by omega]
      refine nX11_isNamed_22 (by omega) (by omega) (fun _ => ?_) (fun z => absurd z (by omega))
      refine sX11_isNamed_56 ?_
      exact sX11_isNamed_57 (Or.inr rfl) (k1 (nq_iff.mpr ⟨z, fun j hj' => hj j (by omega)⟩))
    | succ f ih =>
      intro i lv0 hi hj hlv
      refine aw_lv hlv ?_
      refine sX11_isNamed_17 rfl ?_
      refine sX11_isNamed_19 rfl ?_
      refine sX11_isNamed_20 rfl ?_
      refine nX11_isNamed_21 (by omega) ?_
      rw [show e - d - (a - d) = e - a by omega]
      refine nX11_isNamed_22 (by omega) (by omega) (fun z => absurd z (by omega)) (fun _ => ?_)
      obtain ⟨v1, v2⟩ := c1 i (by omega)
      refine sX11_isNamed_25 rfl ?_
      refine tX11_isNamed_26 hS ?_
      refine nX11_isNamed_29 ?_
      refine sX11_isNamed_31 rfl ?_
      refine nX11_isNamed_32 ?_
      refine sX11_isNamed_33 rfl ?_
      refine nX11_isNamed_35 ?_
      refine tX11_isNamed_36 hS (by decide) (by decide) rfl (by simp only [rl]; omega) ?_
      rw [v1]
      refine sX11_isNamed_37 rfl ?_
      refine sX11_isNamed_38 rfl ?_
      refine sX11_isNamed_39 rfl ?_
      refine nX11_isNamed_41 ?_
      refine tX11_isNamed_42 hS (Nat.le_of_ble_eq_true rfl) ?_
      refine c_at hS hT (by omega) (by omega) ?_
      rw [show a - d + i + d = a + i by omega]
      have := hC.2.2 (a + i)
      refine nX11_isNamed_45 (by omega) (by omega) (fun y => ?_) (fun y => ?_)
      · refine nX11_isNamed_50 rfl ?_
        refine sX11_isNamed_53 ?_
        refine ih (i + 1) _ (by omega) (fun j hj' => ?_) (fun z hz => by simp only [List.mem_cons, List.not_mem_nil, or_false] at hz; rcases hz with rfl | rfl | rfl | rfl | rfl <;> exact xlk_mem rfl)
        rcases Nat.eq_or_lt_of_le (Nat.le_of_lt_succ hj') with e | e
        · rw [e]; exact y
        · exact hj j e
      · refine sX11_isNamed_48 ?_
        exact sX11_isNamed_49 (Or.inl rfl) (k0 (bF nq_iff (fun w => y (w.2 i (by omega)))))
  · refine sX11_isNamed_12 ?_
    exact sX11_isNamed_13 (Or.inl rfl) (k0 (bF nq_iff (fun w => z w.1)))
theorem c_measure {a e : Nat} (hS : RS h b) (hT : RT K C m d n lo) (hM : RM K so ln nm c) (ha : lo + d ≤ a) (hae : a ≤ e) (he : e ≤ m) (k : Q (some (.int (oI (fM so ln nm c C a (e - a))))) (xB h b K)) : ac g l mX11_measure [.ref b, .int (nI (a - d)), .int (nI (e - d)), .int (nI c)] (xB h b K) Q := by
  refine ac_of (by decide) (Nat.le_of_ble_eq_true rfl) ?_
  have hc := hM.1
  have hm := hT.1.1
  refine nX11_measure_0 ?_
  refine sX11_measure_1 ?_
  suffices H : ∀ f i lv0, i + f = c → Q (some (.int (oI (fd (pG so ln nm false C a (e - a)) i f)))) (xB h b K) → (∀ z ∈ ([(0, .ref b), (1, .int (nI (a - d))), (2, .int (nI (e - d))), (3, .int (nI c)), (4, .int (nI i))] : List (Nat × Value)), z ∈ lv0) → aw g l mX11_measure 3 lv0 [] (xB h b K) Q from H c 0 _ (by omega) k (fun z hz => by simp only [List.mem_cons, List.not_mem_nil, or_false] at hz; rcases hz with rfl | rfl | rfl | rfl | rfl <;> exact xlk_mem rfl)
  intro f
  induction f with
  | zero =>
    intro i lv0 hi hq hlv
    refine aw_lv hlv ?_
    refine sX11_measure_3 rfl ?_
    refine sX11_measure_5 rfl ?_
    refine nX11_measure_6 (by omega) (by omega) (fun _ => ?_) (fun z => absurd z (by omega))
    refine sX11_measure_40 ?_
    exact sX11_measure_41 hq
  | succ f ih =>
    intro i lv0 hi hq hlv
    refine aw_lv hlv ?_
    obtain ⟨⟨a1, a2⟩, ⟨b1, b2, b3⟩, c1⟩ := hM.2 i (by omega)
    have hq' : Q (some (.int (oI (if pG so ln nm false C a (e - a) i = true then some i else fd (pG so ln nm false C a (e - a)) (i + 1) f)))) (xB h b K) := hq
    have skip : ∀ lv1 : List (Nat × Value), pG so ln nm false C a (e - a) i = false → (∀ z ∈ ([(0, .ref b), (1, .int (nI (a - d))), (2, .int (nI (e - d))), (3, .int (nI c)), (4, .int (nI i))] : List (Nat × Value)), z ∈ lv1) → aw g l mX11_measure 34 lv1 [] (xB h b K) Q := fun lv1 y hlv1 => by
      refine aw_lv hlv1 ?_
      rw [if_neg (by rw [y]; decide)] at hq'
      refine nX11_measure_34 rfl ?_
      refine sX11_measure_37 ?_
      exact ih (i + 1) _ (by omega) hq' (fun z hz => by simp only [List.mem_cons, List.not_mem_nil, or_false] at hz; rcases hz with rfl | rfl | rfl | rfl | rfl <;> exact xlk_mem rfl)
    refine sX11_measure_3 rfl ?_
    refine sX11_measure_5 rfl ?_
    refine nX11_measure_6 (by omega) (by omega) (fun z => absurd z (by omega)) (fun _ => ?_)
    refine sX11_measure_9 rfl ?_
    refine tX11_measure_10 hS ?_
    refine sX11_measure_13 rfl ?_
    refine tX11_measure_15 hS (by decide) (by decide) rfl (by simp only [rl]; omega) ?_
    rw [a1]
    refine nX11_measure_16 ?_
    refine nX11_measure_17 (by omega) (by omega) (fun z => skip _ (bF pG_f (fun w => w.1 z)) (fun z hz => by simp only [List.mem_cons, List.not_mem_nil, or_false] at hz; rcases hz with rfl | rfl | rfl | rfl | rfl <;> exact xlk_mem rfl)) (fun z => ?_)
    refine sX11_measure_20 rfl ?_
    refine sX11_measure_21 rfl ?_
    refine sX11_measure_23 rfl ?_
    refine sX11_measure_24 rfl ?_
    refine tX11_measure_25 hS (Nat.le_of_ble_eq_true rfl) ?_
    refine c_isNamed hS hT hM (by omega) ha hae he (fun y => ?_) (fun y => ?_)
    · refine sX11_measure_28 (fun w => absurd w (by decide)) (fun _ => ?_)
      rw [if_pos (pG_f.mpr ⟨z, y⟩)] at hq'
      refine sX11_measure_31 rfl ?_
      exact sX11_measure_33 hq'
    · refine sX11_measure_28 (fun _ => ?_) (fun w => absurd rfl w)
      exact skip _ (bF pG_f (fun w => by rw [y] at w; exact absurd w.2 (by decide))) (fun z hz => by simp only [List.mem_cons, List.not_mem_nil, or_false] at hz; rcases hz with rfl | rfl | rfl | rfl | rfl <;> exact xlk_mem rfl)
theorem fM_lt {a j t : Nat} (z : fM so ln nm c C a j = some t) : t < c := by obtain ⟨-, y, -⟩ := fd_some z; omega
theorem fX_lt {a j t : Nat} (z : fX so ln nm c C a j = some t) : t < c := by obtain ⟨-, y, -⟩ := fd_some z; omega
theorem fT_lt {a j t : Nat} (z : fT so ln nm c C a j = some t) : t < c := by
  unfold fT at z
  split at z
  · exact fM_lt z
  · exact fM_lt z
theorem c_measureOrMany {a e : Nat} (hS : RS h b) (hT : RT K C m d n lo) (hM : RM K so ln nm c) (ha : lo + d ≤ a) (hae : a ≤ e) (he : e ≤ m) (k : Q (some (.int (oI (fT so ln nm c C a (e - a))))) (xB h b K)) : ac g l mX11_measureOrMany [.ref b, .int (nI (a - d)), .int (nI (e - d)), .int (nI c)] (xB h b K) Q := by
  refine ac_of (by decide) (Nat.le_of_ble_eq_true rfl) ?_
  have hc := hM.1
  have hm := hT.1.1
  have hC := hT.1
  refine sX11_measureOrMany_0 rfl ?_
  refine sX11_measureOrMany_1 rfl ?_
  refine sX11_measureOrMany_2 rfl ?_
  refine sX11_measureOrMany_3 rfl ?_
  refine tX11_measureOrMany_4 hS (Nat.le_of_ble_eq_true rfl) ?_
  refine c_measure hS hT hM ha hae he ?_
  refine sX11_measureOrMany_7 ?_
  refine sX11_measureOrMany_9 rfl ?_
  have keep : ¬ (fM so ln nm c C a (e - a) = none ∧ 1 < e - a ∧ C (a + (e - a) - 1) = 115) → ∀ lv1 : List (Nat × Value), (∀ z ∈ ([(4, .int (oI (fM so ln nm c C a (e - a))))] : List (Nat × Value)), z ∈ lv1) → aw g l mX11_measureOrMany 45 lv1 [] (xB h b K) Q := fun y lv1 hlv1 => by
    refine aw_lv hlv1 ?_
    unfold fT at k
    rw [if_neg y] at k
    refine sX11_measureOrMany_45 rfl ?_
    exact sX11_measureOrMany_47 k
  cases e' : fM so ln nm c C a (e - a) with
  | some t =>
    have := fM_lt e'
    refine sX11_measureOrMany_11 (fun _ => ?_) (fun z => absurd (oI_ge (by omega)) z)
    exact keep (by rw [e']; rintro ⟨z, -⟩; cases z) _ (by rw [e']; exact (fun z hz => by simp only [List.mem_cons, List.not_mem_nil, or_false] at hz; rcases hz with rfl <;> exact xlk_mem rfl))
  | none =>
    refine sX11_measureOrMany_11 (fun z => absurd z (by decide)) (fun _ => ?_)
    refine sX11_measureOrMany_14 rfl ?_
    refine sX11_measureOrMany_15 rfl ?_
    refine nX11_measureOrMany_16 (by omega) ?_
    refine nX11_measureOrMany_17 ?_
    rw [show e - d - (a - d) = e - a by omega]
    refine nX11_measureOrMany_18 (by omega) (by omega) (fun z => keep (fun y => by omega) _ (by rw [e']; exact (fun z hz => by simp only [List.mem_cons, List.not_mem_nil, or_false] at hz; rcases hz with rfl <;> exact xlk_mem rfl))) (fun z => ?_)
    refine sX11_measureOrMany_21 rfl ?_
    refine sX11_measureOrMany_22 rfl ?_
    refine nX11_measureOrMany_23 ?_
    refine nX11_measureOrMany_24 (by omega) ?_
    refine tX11_measureOrMany_25 hS (Nat.le_of_ble_eq_true rfl) ?_
    refine c_at hS hT (by omega) (by omega) ?_
    rw [show e - d - 1 + d = a + (e - a) - 1 by omega]
    have := hC.2.2 (a + (e - a) - 1)
    refine nX11_measureOrMany_28 ?_
    refine nX11_measureOrMany_30 (by omega) (by omega) (fun y => keep (fun v => y v.2.2) _ (by rw [e']; exact (fun z hz => by simp only [List.mem_cons, List.not_mem_nil, or_false] at hz; rcases hz with rfl <;> exact xlk_mem rfl))) (fun y => ?_)
    refine sX11_measureOrMany_33 rfl ?_
    refine sX11_measureOrMany_34 rfl ?_
    refine sX11_measureOrMany_35 rfl ?_
    refine nX11_measureOrMany_36 ?_
    refine nX11_measureOrMany_37 (by omega) ?_
    refine sX11_measureOrMany_38 rfl ?_
    refine tX11_measureOrMany_39 hS (Nat.le_of_ble_eq_true rfl) ?_
    rw [show e - d - 1 = e - 1 - d by omega]
    refine c_measure hS hT hM ha (by omega) (by omega) ?_
    unfold fT at k
    rw [if_pos ⟨e', z, y⟩, show e - a - 1 = e - 1 - a by omega] at k
    refine sX11_measureOrMany_42 ?_
    exact sX11_measureOrMany_47 k
theorem c_standsFor {a e : Nat} (hS : RS h b) (hT : RT K C m d n lo) (hM : RM K so ln nm c) (ha : lo + d ≤ a) (hae : a < e) (he : e ≤ m) (hu : ∀ k k', k < c → k' < c → so k = 2 → so k' = 2 → ln k = ln k' → (∀ i, i < ln k → nm k i = nm k' i) → k = k') (k : ∀ K', (∀ r, r ≠ 0 → K' r = K r) → (∀ j, j ≠ 25 → j ≠ 26 → K' 0 j = K 0 j) → K' 0 25 = oI (mng so ln nm c C a (e - a)).1 → K' 0 26 = oI (mng so ln nm c C a (e - a)).2 → Q none (xB h b K')) : ac g l mX11_standsFor [.ref b, .int (nI (a - d)), .int (nI (e - d)), .int (nI c)] (xB h b K) Q := by
  refine ac_of (by decide) (Nat.le_of_ble_eq_true rfl) ?_
  have hc := hM.1
  have hm := hT.1.1
  have rt : ∀ K1 : Nat → Nat → Int32, (∀ r, r ≠ 0 → K1 r = K r) → (∀ j, j ≠ 25 → j ≠ 26 → K1 0 j = K 0 j) → RT K1 C m d n lo ∧ RM K1 so ln nm c := fun K1 r1 r2 => by
    refine ⟨RT_c (r2 20 (by decide) (by decide)) (r2 21 (by decide) (by decide)) (r1 4 (by decide)) (r1 11 (by decide)) hT, hM.1, fun i hi => ?_⟩
    rw [r1 5 (by decide), r1 8 (by decide), r1 7 (by decide)]
    exact hM.2 i hi
  refine sX11_standsFor_0 rfl ?_
  refine sX11_standsFor_1 ?_
  refine tX11_standsFor_2 hS ?_
  refine sX11_standsFor_5 rfl ?_
  refine sX11_standsFor_6 rfl ?_
  refine sX11_standsFor_7 rfl ?_
  refine sX11_standsFor_8 rfl ?_
  refine sX11_standsFor_9 rfl ?_
  refine tX11_standsFor_10 hS (Nat.le_of_ble_eq_true rfl) ?_
  obtain ⟨w1, w2⟩ := rt (xup2 K 0 25 (-1)) (fun r hr => xup2_r hr) (fun j hj _ => xup2_n hj)
  refine c_measureOrMany hS w1 w2 ha (by omega) he ?_
  refine tX11_standsFor_13 hS ?_
  obtain ⟨K1, hK1⟩ : ∃ K1, K1 = xup2 (xup2 K 0 25 (-1)) 0 26 (oI (fT so ln nm c C a (e - a))) := ⟨_, rfl⟩
  have r1 : ∀ r, r ≠ 0 → K1 r = K r := fun r hr => by rw [hK1, xup2_r hr, xup2_r hr]
  have r2 : ∀ j, j ≠ 25 → j ≠ 26 → K1 0 j = K 0 j := fun j a1 a2 => by rw [hK1, xup2_n a2, xup2_n a1]
  have e25 : K1 0 25 = -1 := by rw [hK1, xup2_n (by decide), xup2_s]
  have e26 : K1 0 26 = oI (fT so ln nm c C a (e - a)) := by rw [hK1, xup2_s]
  rw [← hK1]
  refine sX11_standsFor_16 rfl ?_
  refine sX11_standsFor_17 rfl ?_
  refine nX11_standsFor_18 (by omega) ?_
  refine nX11_standsFor_19 ?_
  refine nX11_standsFor_20 (by omega) ?_
  refine sX11_standsFor_21 ?_
  rw [show e - d - (a - d) - 1 = e - a - 1 by omega]
  cases e' : fT so ln nm c C a (e - a) with
  | some t =>
    have hm : mng so ln nm c C a (e - a) = (none, some t) := by unfold mng; rw [if_neg (by rw [e']; intro z; cases z), e']
    have := fT_lt e'
    have fin : ∀ lv0 : List (Nat × Value), aw g l mX11_standsFor 128 lv0 [] (xB h b K1) Q := fun lv0 =>
      sX11_standsFor_128 (k K1 r1 r2 (by rw [hm]; exact e25) (by rw [hm, e26, e']))
    refine sX11_standsFor_23 rfl ?_
    refine nX11_standsFor_25 (by omega) (fun _ => fin _) (fun _ => ?_)
    refine sX11_standsFor_28 rfl ?_
    refine tX11_standsFor_29 hS ?_
    rw [e26, e']
    exact sX11_standsFor_32 (fun _ => fin _) (fun z => absurd (oI_ge (by omega)) z)
  | none =>
    have hm : mng so ln nm c C a (e - a) = mr so ln nm c C a (e - a) (e - a - 1) := by unfold mng; rw [if_pos e']
    rw [hm] at k
    rw [e'] at e26
    suffices H : ∀ j lv0, j < e - a → mr so ln nm c C a (e - a) j = mr so ln nm c C a (e - a) (e - a - 1) → (∀ z ∈ ([(0, .ref b), (1, .int (nI (a - d))), (2, .int (nI (e - d))), (3, .int (nI c)), (4, .int (nI j))] : List (Nat × Value)), z ∈ lv0) → aw g l mX11_standsFor 23 lv0 [] (xB h b K1) Q from H (e - a - 1) _ (by omega) rfl (fun z hz => by simp only [List.mem_cons, List.not_mem_nil, or_false] at hz; rcases hz with rfl | rfl | rfl | rfl | rfl <;> exact xlk_mem rfl)
    intro j
    induction j with
    | zero =>
      intro lv0 hj hr hlv
      refine aw_lv hlv ?_
      refine sX11_standsFor_23 rfl ?_
      refine nX11_standsFor_25 (by omega) (fun _ => ?_) (fun z => absurd z (by omega))
      have hr' : mr so ln nm c C a (e - a) (e - a - 1) = (none, none) := hr.symm
      exact sX11_standsFor_128 (k K1 r1 r2 (by rw [hr']; exact e25) (by rw [hr']; exact e26))
    | succ j ih =>
      intro lv0 hj hr hlv
      refine aw_lv hlv ?_
      obtain ⟨w1, w2⟩ := rt K1 r1 r2
      have hr' : mr so ln nm c C a (e - a) (e - a - 1) = if fX so ln nm c C a (j + 1) = none ∨ fT so ln nm c C (a + (j + 1)) (e - a - (j + 1)) = none then mr so ln nm c C a (e - a) j else (fX so ln nm c C a (j + 1), fT so ln nm c C (a + (j + 1)) (e - a - (j + 1))) := hr.symm
      have skip : ∀ lv1 : List (Nat × Value), (fX so ln nm c C a (j + 1) = none ∨ fT so ln nm c C (a + (j + 1)) (e - a - (j + 1)) = none) → (∀ z ∈ ([(0, .ref b), (1, .int (nI (a - d))), (2, .int (nI (e - d))), (3, .int (nI c)), (4, .int (nI (j + 1)))] : List (Nat × Value)), z ∈ lv1) → aw g l mX11_standsFor 122 lv1 [] (xB h b K1) Q := fun lv1 y hlv1 => by
        refine aw_lv hlv1 ?_
        rw [if_pos y] at hr'
        refine sX11_standsFor_122 rfl ?_
        rw [show nI (j + 1) + -1 = nI j by rw [show (-1 : Int32) = - nI 1 by rfl, ← Int32.sub_eq_add_neg, pk_sub (by omega)]; rfl]
        refine sX11_standsFor_125 ?_
        exact ih _ (by omega) hr'.symm (fun z hz => by simp only [List.mem_cons, List.not_mem_nil, or_false] at hz; rcases hz with rfl | rfl | rfl | rfl | rfl <;> exact xlk_mem rfl)
      -- the prefixes of j + 1 bytes
      have got : ∀ (x : Option Nat) (lv1 : List (Nat × Value)), x = fX so ln nm c C a (j + 1) → (∀ z ∈ ([(0, .ref b), (1, .int (nI (a - d))), (2, .int (nI (e - d))), (3, .int (nI c)), (4, .int (nI (j + 1))), (5, .int (oI x))] : List (Nat × Value)), z ∈ lv1) → aw g l mX11_standsFor 82 lv1 [] (xB h b K1) Q := by
        intro x lv1 hx hlv1
        refine aw_lv hlv1 ?_
        refine sX11_standsFor_82 rfl ?_
        cases x with
        | none =>
          refine sX11_standsFor_84 (fun z => absurd z (by decide)) (fun _ => ?_)
          refine sX11_standsFor_87 ?_
          exact skip _ (Or.inl hx.symm) (fun z hz => by simp only [List.mem_cons, List.not_mem_nil, or_false] at hz; rcases hz with rfl | rfl | rfl | rfl | rfl <;> exact xlk_mem rfl)
        | some p =>
          have := fX_lt hx.symm
          refine sX11_standsFor_84 (fun _ => ?_) (fun z => absurd (oI_ge (by omega)) z)
          refine sX11_standsFor_90 rfl ?_
          refine sX11_standsFor_91 rfl ?_
          refine sX11_standsFor_92 rfl ?_
          refine nX11_standsFor_94 ?_
          refine sX11_standsFor_95 rfl ?_
          refine sX11_standsFor_96 rfl ?_
          refine tX11_standsFor_97 hS (Nat.le_of_ble_eq_true rfl) ?_
          rw [show a - d + (j + 1) = a + (j + 1) - d by omega]
          refine c_measureOrMany hS w1 w2 (by omega) (by omega) he ?_
          rw [show e - (a + (j + 1)) = e - a - (j + 1) by omega]
          refine sX11_standsFor_100 ?_
          refine sX11_standsFor_102 rfl ?_
          cases e'' : fT so ln nm c C (a + (j + 1)) (e - a - (j + 1)) with
          | none =>
            refine sX11_standsFor_104 (fun z => absurd z (by decide)) (fun _ => ?_)
            refine sX11_standsFor_107 ?_
            exact skip _ (Or.inr e'') (fun z hz => by simp only [List.mem_cons, List.not_mem_nil, or_false] at hz; rcases hz with rfl | rfl | rfl | rfl | rfl <;> exact xlk_mem rfl)
          | some t =>
            have := fT_lt e''
            refine sX11_standsFor_104 (fun _ => ?_) (fun z => absurd (oI_ge (by omega)) z)
            rw [← hx, e'', if_neg (by rintro (z | z) <;> cases z)] at hr'
            refine sX11_standsFor_110 rfl ?_
            refine sX11_standsFor_111 rfl ?_
            refine tX11_standsFor_113 hS ?_
            refine sX11_standsFor_116 rfl ?_
            refine sX11_standsFor_117 rfl ?_
            refine tX11_standsFor_119 hS ?_
            refine sX11_standsFor_122 rfl ?_
            rw [show nI (j + 1) + -1 = nI j by rw [show (-1 : Int32) = - nI 1 by rfl, ← Int32.sub_eq_add_neg, pk_sub (by omega)]; rfl]
            refine sX11_standsFor_125 ?_
            have fin : ∀ lv0 : List (Nat × Value), aw g l mX11_standsFor 128 lv0 [] (xB h b (xup2 (xup2 K1 0 25 (oI (some p))) 0 26 (oI (some t)))) Q := fun lv0 =>
              sX11_standsFor_128 (k _ (fun r hr => by rw [xup2_r hr, xup2_r hr]; exact r1 r hr) (fun j y1 y2 => by rw [xup2_n y2, xup2_n y1]; exact r2 j y1 y2) (by rw [xup2_n (by decide), xup2_s, hr']) (by rw [xup2_s, hr']))
            refine sX11_standsFor_23 rfl ?_
            refine nX11_standsFor_25 (by omega) (fun _ => fin _) (fun _ => ?_)
            refine sX11_standsFor_28 rfl ?_
            refine tX11_standsFor_29 hS ?_
            rw [xup2_s]
            exact sX11_standsFor_32 (fun _ => fin _) (fun z => absurd (oI_ge (by omega)) z)
      refine sX11_standsFor_23 rfl ?_
      refine nX11_standsFor_25 (by omega) (fun z => absurd z (by omega)) (fun _ => ?_)
      refine sX11_standsFor_28 rfl ?_
      refine tX11_standsFor_29 hS ?_
      rw [e26]
      refine sX11_standsFor_32 (fun z => absurd z (by decide)) (fun _ => ?_)
      refine sX11_standsFor_35 ?_
      refine sX11_standsFor_36 ?_
      refine nX11_standsFor_38 ?_
      refine sX11_standsFor_39 ?_
      have uq : ∀ i i', i < c → i' < c → pG so ln nm true C a (j + 1) i = true → pG so ln nm true C a (j + 1) i' = true → i = i' := fun i i' y1 y2 y3 y4 => by
        obtain ⟨u1, u2⟩ := pG_t.mp y3
        obtain ⟨v1, v2⟩ := pG_t.mp y4
        obtain ⟨u3, u4⟩ := nq_iff.mp u2
        obtain ⟨v3, v4⟩ := nq_iff.mp v2
        exact hu i i' y1 y2 u1 v1 (by omega) (fun q hq => by rw [u4 q (by omega), v4 q (by omega)])
      suffices H : ∀ f i (x : Option Nat) (lv1 : List (Nat × Value)), i + f = c → (x = none ∧ (∀ q, q < i → pG so ln nm true C a (j + 1) q = false) ∨ ∃ p, x = some p ∧ p < i ∧ pG so ln nm true C a (j + 1) p = true) → (∀ z ∈ ([(0, .ref b), (1, .int (nI (a - d))), (2, .int (nI (e - d))), (3, .int (nI c)), (4, .int (nI (j + 1))), (5, .int (oI x)), (6, .int (nI i))] : List (Nat × Value)), z ∈ lv1) → aw g l mX11_standsFor 41 lv1 [] (xB h b K1) Q from H c 0 none _ (by omega) (Or.inl ⟨rfl, fun q hq => by omega⟩) (fun z hz => by simp only [List.mem_cons, List.not_mem_nil, or_false] at hz; rcases hz with rfl | rfl | rfl | rfl | rfl | rfl | rfl <;> exact xlk_mem rfl)
      intro f
      induction f with
      | zero =>
        intro i x lv1 hi hx hlv1
        refine aw_lv hlv1 ?_
        refine sX11_standsFor_41 rfl ?_
        refine sX11_standsFor_43 rfl ?_
        refine nX11_standsFor_44 (by omega) (by omega) (fun _ => ?_) (fun z => absurd z (by omega))
        refine got x _ ?_ (fun z hz => by simp only [List.mem_cons, List.not_mem_nil, or_false] at hz; rcases hz with rfl | rfl | rfl | rfl | rfl | rfl <;> exact xlk_mem rfl)
        rcases hx with ⟨x1, x2⟩ | ⟨p, x1, x2, x3⟩
        · rw [x1]; exact (fd_none.mpr (fun q _ hq => x2 q (by omega))).symm
        · rw [x1]; exact (fd_is (by omega) x3 (fun q hq hp => uq q p hq (by omega) hp x3)).symm
      | succ f ihf =>
        intro i x lv1 hi hx hlv1
        refine aw_lv hlv1 ?_
        obtain ⟨⟨a1, a2⟩, -, -⟩ := w2.2 i (by omega)
        have next : pG so ln nm true C a (j + 1) i = false → ∀ lv1 : List (Nat × Value), (∀ z ∈ ([(0, .ref b), (1, .int (nI (a - d))), (2, .int (nI (e - d))), (3, .int (nI c)), (4, .int (nI (j + 1))), (5, .int (oI x)), (6, .int (nI i))] : List (Nat × Value)), z ∈ lv1) → aw g l mX11_standsFor 76 lv1 [] (xB h b K1) Q := fun y lv1 hlv1 => by
          refine aw_lv hlv1 ?_
          refine nX11_standsFor_76 rfl ?_
          refine sX11_standsFor_79 ?_
          refine ihf (i + 1) x _ (by omega) ?_ (fun z hz => by simp only [List.mem_cons, List.not_mem_nil, or_false] at hz; rcases hz with rfl | rfl | rfl | rfl | rfl | rfl | rfl <;> exact xlk_mem rfl)
          rcases hx with ⟨x1, x2⟩ | ⟨p, x1, x2, x3⟩
          · refine Or.inl ⟨x1, fun q hq => ?_⟩
            rcases Nat.eq_or_lt_of_le (Nat.le_of_lt_succ hq) with e | e
            · rw [e]; exact y
            · exact x2 q e
          · exact Or.inr ⟨p, x1, by omega, x3⟩
        refine sX11_standsFor_41 rfl ?_
        refine sX11_standsFor_43 rfl ?_
        refine nX11_standsFor_44 (by omega) (by omega) (fun z => absurd z (by omega)) (fun _ => ?_)
        refine sX11_standsFor_47 rfl ?_
        refine tX11_standsFor_48 hS ?_
        refine sX11_standsFor_51 rfl ?_
        refine tX11_standsFor_53 hS (by decide) (by decide) rfl (by simp only [rl]; omega) ?_
        rw [a1]
        refine nX11_standsFor_54 ?_
        refine nX11_standsFor_55 (by omega) (by omega) (fun z => next (bF pG_t (fun w => z w.1)) _ (fun z hz => by simp only [List.mem_cons, List.not_mem_nil, or_false] at hz; rcases hz with rfl | rfl | rfl | rfl | rfl | rfl | rfl <;> exact xlk_mem rfl)) (fun z => ?_)
        refine sX11_standsFor_58 rfl ?_
        refine sX11_standsFor_59 rfl ?_
        refine sX11_standsFor_61 rfl ?_
        refine sX11_standsFor_62 rfl ?_
        refine sX11_standsFor_63 rfl ?_
        refine nX11_standsFor_65 ?_
        refine tX11_standsFor_66 hS (Nat.le_of_ble_eq_true rfl) ?_
        rw [show a - d + (j + 1) = a + (j + 1) - d by omega]
        have ej : a + (j + 1) - a = j + 1 := by omega
        refine c_isNamed (e := a + (j + 1)) hS w1 w2 (by omega) ha (by omega) (by omega) (fun y => ?_) (fun y => ?_)
        · rw [ej] at y
          refine sX11_standsFor_69 (fun w => absurd w (by decide)) (fun _ => ?_)
          refine sX11_standsFor_72 rfl ?_
          refine sX11_standsFor_74 ?_
          refine nX11_standsFor_76 rfl ?_
          refine sX11_standsFor_79 ?_
          exact ihf (i + 1) (some i) _ (by omega) (Or.inr ⟨i, rfl, by omega, pG_t.mpr ⟨z, y⟩⟩) (fun z hz => by simp only [List.mem_cons, List.not_mem_nil, or_false] at hz; rcases hz with rfl | rfl | rfl | rfl | rfl | rfl | rfl <;> exact xlk_mem rfl)
        · rw [ej] at y
          refine sX11_standsFor_69 (fun _ => ?_) (fun w => absurd rfl w)
          exact next (bF pG_t (fun w => by rw [y] at w; exact absurd w.2 (by decide))) _ (fun z hz => by simp only [List.mem_cons, List.not_mem_nil, or_false] at hz; rcases hz with rfl | rfl | rfl | rfl | rfl | rfl | rfl <;> exact xlk_mem rfl)
end Names2
