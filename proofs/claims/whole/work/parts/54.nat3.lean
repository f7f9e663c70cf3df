theorem nneg_mask {m : Nat} (h0 : 0 < m) (h : m ≤ 1073741824) : -nI m &&& 1073741823 = nI (1073741824 - m) := by
  rw [pk_and (-nI m) 30 (by decide)]
  congr 1
  rw [Int32.toBitVec_neg, BitVec.toNat_neg, pk_tn (by omega)]
  omega
theorem nneg_shr {m : Nat} (h0 : 0 < m) (h : m ≤ 1073741824) : (-nI m) >>> (nI 30 &&& 31) = -nI 1 := by
  apply Int32.toInt_inj.mp
  rw [pk_shr (-nI m) (nI 30 &&& 31) 30 (by decide), sb_negT (by omega), sb_negT (by decide), Int.shiftRight_eq_div_pow]
  show -(m : Int) / ((2 ^ 30 : Nat) : Int) = -((1 : Nat) : Int)
  rw [show ((2 ^ 30 : Nat) : Int) = 1073741824 from rfl]
  omega
theorem yB_min {D p q : Nat} (h1 : D < yB p) (h2 : D < yB q) : D < yB (min p q) := by
  rcases Nat.le_total p q with e | e
  · rw [Nat.min_eq_left e]; exact h1
  · rw [Nat.min_eq_right e]; exact h2
theorem yB_le {p q : Nat} (h : p ≤ q) : yB p ≤ yB q := Nat.pow_le_pow_right (by decide) h
section Nat3
variable {g : xG} {l : Launch} {h : xH} {J : Nat → Nat → Int32} {Q : Option Value → xH → Prop}
theorem c_fill {q c n : Nat} (ht : xT h q = (100, c)) (hn : n ≤ c) (hc : c < 2 ^ 31) (k : ∀ J', (∀ r, r ≠ q → J' r = J r) → (∀ i, i < n → J' q i = nI 0) → Q none (xJ h J')) : ac g l mJ7_fill_fda19 [.ref q, .int (nI 0), .int (nI n), .int (nI 0)] (xJ h J) Q := by
  refine ac_of (by decide) (Nat.le_of_ble_eq_true rfl) ?_
  refine sJ7_fill_fda19_0 rfl ?_
  refine jJ7_fill_fda19_1 (by assumption) ?_
  refine sJ7_fill_fda19_2 rfl ?_
  refine sJ7_fill_fda19_3 rfl ?_
  refine sJ7_fill_fda19_4 (Nat.le_of_ble_eq_true rfl) ?_
  refine ac_of (by decide) (Nat.le_of_ble_eq_true rfl) ?_
  refine sJ7_rangeCheck_23922_0 rfl ?_
  refine sJ7_rangeCheck_23922_1 rfl ?_
  refine nJ7_rangeCheck_23922_2 (by omega) (by omega) (fun _ => ?_) (fun hc => absurd hc (by omega))
  refine sJ7_rangeCheck_23922_46 rfl ?_
  refine nJ7_rangeCheck_23922_47 (by omega) ?_
  refine sJ7_rangeCheck_23922_59 rfl ?_
  refine sJ7_rangeCheck_23922_60 rfl ?_
  refine nJ7_rangeCheck_23922_61 (by omega) (by omega) (fun _ => ?_) (fun hc => absurd hc (by omega))
  refine sJ7_rangeCheck_23922_73 ?_
  refine sJ7_fill_fda19_7 rfl ?_
  refine sJ7_fill_fda19_8 ?_
  suffices H : ∀ t i J1, i + t = n → (∀ r, r ≠ q → J1 r = J r) → (∀ j, j < i → J1 q j = nI 0) → aw g l mJ7_fill_fda19 10 [(0, .ref q), (1, .int (nI 0)), (2, .int (nI n)), (3, .int (nI 0)), (4, .int (nI i))] [] (xJ h J1) Q from H n 0 J (by omega) (fun _ _ => rfl) (fun j hj => absurd hj (by omega))
  intro t
  induction t with
  | zero =>
    intro i J1 hi ho hz
    obtain rfl : i = n := by omega
    refine sJ7_fill_fda19_10 rfl ?_
    refine sJ7_fill_fda19_12 rfl ?_
    refine nJ7_fill_fda19_13 (by omega) (by omega) (fun _ => ?_) (fun hc => absurd hc (by omega))
    refine sJ7_fill_fda19_27 ?_
    exact k J1 ho hz
  | succ t ih =>
    intro i J1 hi ho hz
    refine sJ7_fill_fda19_10 rfl ?_
    refine sJ7_fill_fda19_12 rfl ?_
    refine nJ7_fill_fda19_13 (by omega) (by omega) (fun hc => absurd hc (by omega)) (fun _ => ?_)
    refine sJ7_fill_fda19_16 rfl ?_
    refine sJ7_fill_fda19_17 rfl ?_
    refine sJ7_fill_fda19_19 rfl ?_
    refine jJ7_fill_fda19_20 (by assumption) (by omega) (by omega) ?_
    refine nJ7_fill_fda19_21 rfl ?_
    refine sJ7_fill_fda19_24 ?_
    refine ih (i + 1) _ (by omega) (fun r hr => by rw [xup2_r hr]; exact ho r hr) (fun j hj => ?_)
    by_cases e : j = i
    · subst e; rw [xup2_s]
    · rw [xup2_n e]; exact hz j (by omega)
theorem c_setSum {t a b ct ca cb x y : Nat} (hT : CN h t ct) (hA : CN h a ca) (hB : CN h b cb) (h1 : ct < 2 ^ 30) (h2 : ca < 2 ^ 30) (h3 : cb < 2 ^ 30) (hat : a ≠ t) (hbt : b ≠ t) (hx : NJ J a ca x) (hy : NJ J b cb y) (hs : x + y < yB ct) (k : ∀ J', yo t J J' → NJ J' t ct (x + y) → Q none (xJ h J')) : ac g l mX5_setSum [.ref t, .ref a, .ref b] (xJ h J) Q := by
  refine ac_of (by decide) (Nat.le_of_ble_eq_true rfl) ?_
  have hT0 := hT
  have hA0 := hA
  have hB0 := hB
  obtain ⟨t1, t2, t3⟩ := hT
  obtain ⟨a1, a2, a3⟩ := hA
  obtain ⟨b1, b2, b3⟩ := hB
  obtain ⟨p, hxR, hxl⟩ := hx
  obtain ⟨q, hyR, hyl⟩ := hy
  obtain ⟨x1, x2, x3, x4⟩ := id hxR
  obtain ⟨y1, y2, y3, y4⟩ := id hyR
  obtain ⟨D, hD⟩ : ∃ D, D = x + y := ⟨_, rfl⟩
  rw [← hD] at k hs
  refine sX5_setSum_0 rfl ?_
  refine jX5_setSum_1 (by assumption) ?_
  rw [x3]
  refine sX5_setSum_4 rfl ?_
  refine jX5_setSum_5 (by assumption) ?_
  rw [y3]
  refine mX5_setSum_8n (Nat.le_of_ble_eq_true rfl) (by omega) (by omega) ?_
  refine nX5_setSum_11 ?_
  refine nX5_setSum_12 ?_
  refine sX5_setSum_13 rfl ?_
  refine jX5_setSum_14 (by assumption) (by assumption) ?_
  refine jX5_setSum_17 (by assumption) ?_
  have hmx : max p q ≤ max ca cb := by omega
  refine mX5_setSum_18n (Nat.le_of_ble_eq_true rfl) (by omega) (by omega) ?_
  obtain ⟨A, hAll⟩ : ∃ A, A = min (max p q + 1) ct := ⟨_, rfl⟩
  rw [← hAll]
  have hAc : A ≤ ct := by omega
  have hDA : D < yB A := by
    rw [hAll]
    refine yB_min ?_ hs
    rw [yB_s, hD]
    have e1 := yB_le (show p ≤ max p q by omega)
    have e2 := yB_le (show q ≤ max p q by omega)
    omega
  refine sX5_setSum_21 ?_
  refine nX5_setSum_22 ?_
  refine sX5_setSum_23 ?_
  refine nX5_setSum_25 ?_
  refine sX5_setSum_26 ?_
  suffices H : ∀ n i cr J1 lv0, i + n = A → cr ≤ 1 → yh D i = yh x i + yh y i + cr → yo t J J1 → (∀ j, j < i → J1 (t + 1) j = nI (yg D j)) → (∀ z ∈ ([(0, .ref t), (1, .ref a), (2, .ref b), (3, .int (nI A)), (4, .int (nI cr)), (5, .int (nI i))] : List (Nat × Value)), z ∈ lv0) → aw g l mX5_setSum 28 lv0 [] (xJ h J1) Q from H A 0 0 J _ (by omega) (by omega) (by rw [yh_0, yh_0, yh_0]; omega) (yo_rf t J) (fun j hj => absurd hj (by omega)) (fun z hz => hz)
  intro n
  induction n with
  | zero =>
    intro i cr J1 lv0 hi hcr hz hyo hP hlv
    refine aw_lv hlv ?_
    obtain rfl : i = A := by omega
    refine sX5_setSum_28 rfl ?_
    refine sX5_setSum_30 rfl ?_
    refine nX5_setSum_31 (by omega) (by omega) (fun _ => ?_) (fun hc => absurd hc (by omega))
    refine sX5_setSum_105 rfl ?_
    refine sX5_setSum_106 rfl ?_
    refine jX5_setSum_107 (by assumption) ?_
    refine sX5_setSum_110 rfl ?_
    refine jX5_setSum_111 (Nat.le_of_ble_eq_true rfl) (by assumption) ?_
    refine c_trim (s := i) (v := D) hT0 (by omega) ⟨hAc, hDA, by rw [xup2_s], fun j hj => by rw [xup2_r (by omega)]; exact hP j hj⟩ (fun J2 hyo2 hN2 => ?_)
    refine sX5_setSum_114 ?_
    exact k J2 (yo_tr hyo (yo_tr yo_s hyo2)) hN2
  | succ n ih =>
    intro i cr J1 lv0 hi hcr hz hyo hP hlv
    refine aw_lv hlv ?_
    have hxR1 := NR_o hT0 hA0 hat hyo hxR
    have hyR1 := NR_o hT0 hB0 hbt hyo hyR
    obtain ⟨x1', x2', x3', x4'⟩ := id hxR1
    obtain ⟨y1', y2', y3', y4'⟩ := id hyR1
    have g1 := yg_lt x i
    have g2 := yg_lt y i
    have g3 := yg_lt D i
    have e1 := yh_eq x i
    have e2 := yh_eq y i
    have e3 := yh_eq D i
    refine sX5_setSum_28 rfl ?_
    refine sX5_setSum_30 rfl ?_
    refine nX5_setSum_31 (by omega) (by omega) (fun hc => absurd hc (by omega)) (fun _ => ?_)
    have l76 : aw g l mX5_setSum 76 [(0, .ref t), (1, .ref a), (2, .ref b), (3, .int (nI A)), (4, .int (nI cr)), (5, .int (nI i))] [.int (nI (yg y i)), .int (nI (yg x i)), .int (nI cr)] (xJ h J1) Q := by
      refine nX5_setSum_76 ?_
      refine nX5_setSum_77 ?_
      obtain ⟨w, hw⟩ : ∃ w, w = cr + (yg x i + yg y i) := ⟨_, rfl⟩
      rw [← hw]
      refine sX5_setSum_78 ?_
      refine sX5_setSum_80 rfl ?_
      refine jX5_setSum_81 (by assumption) (by assumption) ?_
      refine sX5_setSum_84 rfl ?_
      refine sX5_setSum_86 rfl ?_
      refine sX5_setSum_88 ?_
      refine sX5_setSum_90 ?_
      rw [nI_mask (by omega)]
      refine jX5_setSum_91 (by assumption) (by omega) (by omega) ?_
      refine sX5_setSum_92 rfl ?_
      refine nX5_setSum_94 ?_
      refine sX5_setSum_96 ?_
      rw [pk_ushrN (by omega) _ 30 (by decide), show (2 : Nat) ^ 30 = 1073741824 from rfl]
      refine sX5_setSum_97 ?_
      refine nX5_setSum_99 rfl ?_
      refine sX5_setSum_102 ?_
      refine ih (i + 1) (w / 1073741824) _ _ (by omega) (by omega) (by omega) (yo_tr hyo yo_l) (fun j hj => ?_) (fun z hz => by
        simp only [List.mem_cons, List.not_mem_nil, or_false] at hz
        rcases hz with rfl | rfl | rfl | rfl | rfl | rfl <;> exact xlk_mem rfl)
      by_cases e : j = i
      · subst e; rw [xup2_s]; congr 1; omega
      · rw [xup2_n e]; exact hP j (by omega)
    have l56 : aw g l mX5_setSum 56 [(0, .ref t), (1, .ref a), (2, .ref b), (3, .int (nI A)), (4, .int (nI cr)), (5, .int (nI i))] [.int (nI (yg x i)), .int (nI cr)] (xJ h J1) Q := by
      refine sX5_setSum_56 rfl ?_
      refine sX5_setSum_58 rfl ?_
      refine jX5_setSum_59 (by assumption) ?_
      rw [y3']
      refine nX5_setSum_62 (by omega) (by omega) (fun hc => ?_) (fun hc => ?_)
      · refine nX5_setSum_75 ?_
        rw [yg_up (yh_small y2') hc] at l76
        exact l76
      · refine sX5_setSum_65 rfl ?_
        refine jX5_setSum_66 (by assumption) (by assumption) ?_
        refine sX5_setSum_69 rfl ?_
        refine jX5_setSum_71 (by assumption) (by omega) (by omega) ?_
        rw [y4' i hc]
        refine sX5_setSum_72 ?_
        exact l76
    refine sX5_setSum_34 rfl ?_
    refine sX5_setSum_36 rfl ?_
    refine sX5_setSum_38 rfl ?_
    refine jX5_setSum_39 (by assumption) ?_
    rw [x3']
    refine nX5_setSum_42 (by omega) (by omega) (fun hc => ?_) (fun hc => ?_)
    · refine nX5_setSum_55 ?_
      rw [yg_up (yh_small x2') hc] at l56
      exact l56
    · refine sX5_setSum_45 rfl ?_
      refine jX5_setSum_46 (by assumption) (by assumption) ?_
      refine sX5_setSum_49 rfl ?_
      refine jX5_setSum_51 (by assumption) (by omega) (by omega) ?_
      rw [x4' i hc]
      refine sX5_setSum_52 ?_
      exact l56
theorem c_setDifference {t a b ct ca cb x y : Nat} (hT : CN h t ct) (hA : CN h a ca) (hB : CN h b cb) (h1 : ct < 2 ^ 30) (h2 : ca < 2 ^ 30) (h3 : cb < 2 ^ 30) (hat : a ≠ t) (hbt : b ≠ t) (hx : NJ J a ca x) (hy : NJ J b cb y) (hxy : y ≤ x) (hs : x - y < yB ct) (k : ∀ J', yo t J J' → NJ J' t ct (x - y) → Q none (xJ h J')) : ac g l mX5_setDifference [.ref t, .ref a, .ref b] (xJ h J) Q := by
  refine ac_of (by decide) (Nat.le_of_ble_eq_true rfl) ?_
  have hT0 := hT
  have hA0 := hA
  have hB0 := hB
  obtain ⟨t1, t2, t3⟩ := hT
  obtain ⟨a1, a2, a3⟩ := hA
  obtain ⟨b1, b2, b3⟩ := hB
  obtain ⟨p, hxR, hxl⟩ := hx
  obtain ⟨q, hyR, hyl⟩ := hy
  obtain ⟨x1, x2, x3, x4⟩ := id hxR
  obtain ⟨y1, y2, y3, y4⟩ := id hyR
  obtain ⟨D, hD⟩ : ∃ D, D = x - y := ⟨_, rfl⟩
  rw [← hD] at k hs
  refine sX5_setDifference_0 rfl ?_
  refine jX5_setDifference_1 (by assumption) ?_
  rw [x3]
  refine sX5_setDifference_4 rfl ?_
  refine jX5_setDifference_5 (by assumption) (by assumption) ?_
  refine jX5_setDifference_8 (by assumption) ?_
  refine mX5_setDifference_9n (Nat.le_of_ble_eq_true rfl) (by omega) (by omega) ?_
  obtain ⟨A, hAll⟩ : ∃ A, A = min p ct := ⟨_, rfl⟩
  rw [← hAll]
  have hAc : A ≤ ct := by omega
  have hAp : A ≤ p := by omega
  have hDA : D < yB A := by
    rw [hAll]
    exact yB_min (by omega) hs
  refine sX5_setDifference_12 ?_
  refine nX5_setDifference_13 ?_
  refine sX5_setDifference_14 ?_
  refine nX5_setDifference_16 ?_
  refine sX5_setDifference_17 ?_
  suffices H : ∀ n i cr J1 lv0, i + n = A → cr ≤ 1 → yh x i = yh D i + yh y i + cr → yo t J J1 → (∀ j, j < i → J1 (t + 1) j = nI (yg D j)) → (∀ z ∈ ([(0, .ref t), (1, .ref a), (2, .ref b), (3, .int (nI A)), (4, .int (-nI cr)), (5, .int (nI i))] : List (Nat × Value)), z ∈ lv0) → aw g l mX5_setDifference 19 lv0 [] (xJ h J1) Q from H A 0 0 J _ (by omega) (by omega) (by rw [yh_0, yh_0, yh_0]; omega) (yo_rf t J) (fun j hj => absurd hj (by omega)) (fun z hz => by
      rw [show (-nI 0 : Int32) = nI 0 from by decide] at hz
      exact hz)
  intro n
  induction n with
  | zero =>
    intro i cr J1 lv0 hi hcr hz hyo hP hlv
    refine aw_lv hlv ?_
    obtain rfl : i = A := by omega
    refine sX5_setDifference_19 rfl ?_
    refine sX5_setDifference_21 rfl ?_
    refine nX5_setDifference_22 (by omega) (by omega) (fun _ => ?_) (fun hc => absurd hc (by omega))
    refine sX5_setDifference_83 rfl ?_
    refine sX5_setDifference_84 rfl ?_
    refine jX5_setDifference_85 (by assumption) ?_
    refine sX5_setDifference_88 rfl ?_
    refine jX5_setDifference_89 (Nat.le_of_ble_eq_true rfl) (by assumption) ?_
    refine c_trim (s := i) (v := D) hT0 (by omega) ⟨hAc, hDA, by rw [xup2_s], fun j hj => by rw [xup2_r (by omega)]; exact hP j hj⟩ (fun J2 hyo2 hN2 => ?_)
    refine sX5_setDifference_92 ?_
    exact k J2 (yo_tr hyo (yo_tr yo_s hyo2)) hN2
  | succ n ih =>
    intro i cr J1 lv0 hi hcr hz hyo hP hlv
    refine aw_lv hlv ?_
    have hxR1 := NR_o hT0 hA0 hat hyo hxR
    have hyR1 := NR_o hT0 hB0 hbt hyo hyR
    obtain ⟨x1', x2', x3', x4'⟩ := id hxR1
    obtain ⟨y1', y2', y3', y4'⟩ := id hyR1
    have g1 := yg_lt x i
    have g2 := yg_lt y i
    have g3 := yg_lt D i
    have e1 := yh_eq x i
    have e2 := yh_eq y i
    have e3 := yh_eq D i
    refine sX5_setDifference_19 rfl ?_
    refine sX5_setDifference_21 rfl ?_
    refine nX5_setDifference_22 (by omega) (by omega) (fun hc => absurd hc (by omega)) (fun _ => ?_)
    have l54 : aw g l mX5_setDifference 54 [(0, .ref t), (1, .ref a), (2, .ref b), (3, .int (nI A)), (4, .int (-nI cr)), (5, .int (nI i))] [.int (nI (yg y i)), .int (nI (yg x i)), .int (-nI cr)] (xJ h J1) Q := by
      have fin : ∀ (W : Int32) (cr' d : Nat), cr' ≤ 1 → yh x (i + 1) = yh D (i + 1) + yh y (i + 1) + cr' → d = yg D i → W &&& 1073741823 = nI d → W >>> (nI 30 &&& 31) = -nI cr' → aw g l mX5_setDifference 56 [(0, .ref t), (1, .ref a), (2, .ref b), (3, .int (nI A)), (4, .int (-nI cr)), (5, .int (nI i))] [.int W] (xJ h J1) Q := by
        intro W cr' d q1 q2 q3 q4 q5
        refine sX5_setDifference_56 ?_
        refine sX5_setDifference_58 rfl ?_
        refine jX5_setDifference_59 (by assumption) (by assumption) ?_
        refine sX5_setDifference_62 rfl ?_
        refine sX5_setDifference_64 rfl ?_
        refine sX5_setDifference_66 ?_
        refine sX5_setDifference_68 ?_
        rw [q4]
        refine jX5_setDifference_69 (by assumption) (by omega) (by omega) ?_
        refine sX5_setDifference_70 rfl ?_
        refine nX5_setDifference_72 ?_
        refine sX5_setDifference_74 ?_
        rw [q5]
        refine sX5_setDifference_75 ?_
        refine nX5_setDifference_77 rfl ?_
        refine sX5_setDifference_80 ?_
        refine ih (i + 1) cr' _ _ (by omega) q1 q2 (yo_tr hyo yo_l) (fun j hj => ?_) (fun z hz => by
          simp only [List.mem_cons, List.not_mem_nil, or_false] at hz
          rcases hz with rfl | rfl | rfl | rfl | rfl | rfl <;> exact xlk_mem rfl)
        by_cases e : j = i
        · subst e; rw [xup2_s, q3]
        · rw [xup2_n e]; exact hP j (by omega)
      refine sX5_setDifference_54 ?_
      refine sX5_setDifference_55 ?_
      have ew : -nI cr + (nI (yg x i) - nI (yg y i)) = nI (yg x i) - nI (yg y i + cr) := by rw [← nI_add]; grind
      rw [ew]
      by_cases hle : yg y i + cr ≤ yg x i
      · rw [pk_sub hle]
        refine fin _ 0 (yg x i - (yg y i + cr)) (by omega) (by omega) (by omega) ?_ ?_
        · rw [nI_mask (by omega), Nat.mod_eq_of_lt (by omega)]
        · rw [pk_shrN (by omega) _ 30 (by decide), show (2 : Nat) ^ 30 = 1073741824 from rfl, Nat.div_eq_of_lt (by omega)]; decide
      · have en : nI (yg x i) - nI (yg y i + cr) = -nI (yg y i + cr - yg x i) := by
          rw [← pk_sub (show yg x i ≤ yg y i + cr by omega)]; grind
        rw [en]
        refine fin _ 1 (1073741824 - (yg y i + cr - yg x i)) (by omega) (by omega) (by omega) (nneg_mask (by omega) (by omega)) (nneg_shr (by omega) (by omega))
    refine sX5_setDifference_25 rfl ?_
    refine sX5_setDifference_27 rfl ?_
    refine jX5_setDifference_28 (by assumption) (by assumption) ?_
    refine sX5_setDifference_31 rfl ?_
    refine jX5_setDifference_33 (by assumption) (by omega) (by omega) ?_
    rw [x4' i (by omega)]
    refine sX5_setDifference_34 rfl ?_
    refine sX5_setDifference_36 rfl ?_
    refine jX5_setDifference_37 (by assumption) ?_
    rw [y3']
    refine nX5_setDifference_40 (by omega) (by omega) (fun hc => ?_) (fun hc => ?_)
    · refine nX5_setDifference_53 ?_
      rw [yg_up (yh_small y2') hc] at l54
      exact l54
    · refine sX5_setDifference_43 rfl ?_
      refine jX5_setDifference_44 (by assumption) (by assumption) ?_
      refine sX5_setDifference_47 rfl ?_
      refine jX5_setDifference_49 (by assumption) (by omega) (by omega) ?_
      rw [y4' i hc]
      refine sX5_setDifference_50 ?_
      exact l54
end Nat3
