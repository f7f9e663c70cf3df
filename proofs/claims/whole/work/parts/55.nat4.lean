section Nat4
variable {g : xG} {l : Launch} {h : xH} {J : Nat → Nat → Int32} {Q : Option Value → xH → Prop}
theorem c_setProduct {t a b ct ca cb x y : Nat} (hT : CN h t ct) (hA : CN h a ca) (hB : CN h b cb) (h1 : ct < 2 ^ 29) (h2 : ca < 2 ^ 29) (h3 : cb < 2 ^ 29) (hca : ca ≤ ct) (hat : a ≠ t) (hbt : b ≠ t) (hx : NJ J a ca x) (hy : NJ J b cb y) (hs : x * y < yB ct) (k : ∀ J', yo t J J' → NJ J' t ct (x * y) → Q none (xJ h J')) : ac g l mX5_setProduct [.ref t, .ref a, .ref b] (xJ h J) Q := by
  refine ac_of (by decide) (Nat.le_of_ble_eq_true rfl) ?_
  have hT0 := hT
  have hA0 := hA
  have hB0 := hB
  obtain ⟨t1, t2, t3⟩ := hT
  obtain ⟨a1, a2, a3⟩ := hA
  obtain ⟨b1, b2, b3⟩ := hB
  obtain ⟨p, hxR, hxl⟩ := hx
  obtain ⟨q, hyR, hyl⟩ := hy
  obtain ⟨x1, x2, x3, x4⟩ := id hxR
  obtain ⟨y1, y2, y3, y4⟩ := id hyR
  refine sX5_setProduct_0 rfl ?_
  refine jX5_setProduct_1 (by assumption) ?_
  rw [x3]
  refine sX5_setProduct_4 rfl ?_
  refine jX5_setProduct_5 (by assumption) ?_
  rw [y3]
  refine nX5_setProduct_8 ?_
  refine sX5_setProduct_9 rfl ?_
  refine jX5_setProduct_10 (by assumption) (by assumption) ?_
  refine jX5_setProduct_13 (by assumption) ?_
  refine mX5_setProduct_14n (Nat.le_of_ble_eq_true rfl) (by omega) (by omega) ?_
  obtain ⟨A, hAll⟩ : ∃ A, A = min (p + q) ct := ⟨_, rfl⟩
  rw [← hAll]
  have hAc : A ≤ ct := by omega
  have hDA : x * y < yB A := by
    rw [hAll]
    refine yB_min ?_ hs
    rw [yB_add]
    exact Nat.mul_lt_mul'' x2 y2
  refine sX5_setProduct_17 ?_
  refine sX5_setProduct_18 rfl ?_
  refine jX5_setProduct_19 (by assumption) (by assumption) ?_
  refine nX5_setProduct_22 ?_
  refine sX5_setProduct_23 rfl ?_
  refine nX5_setProduct_24 ?_
  refine sX5_setProduct_25 (Nat.le_of_ble_eq_true rfl) ?_
  refine c_fill t3 hAc (by omega) (fun J0 hJ0 hz0 => ?_)
  have hyo0 : yo t J J0 := fun r _ hr => hJ0 r hr
  refine nX5_setProduct_28 ?_
  refine sX5_setProduct_29 ?_
  suffices H : ∀ n i J1 lv0, i + n = p → yo t J J1 → (∀ j, j < A → J1 (t + 1) j = nI (yg (x % yB i * y) j)) → (∀ z ∈ ([(0, .ref t), (1, .ref a), (2, .ref b), (3, .int (nI A)), (4, .int (nI i))] : List (Nat × Value)), z ∈ lv0) → aw g l mX5_setProduct 31 lv0 [] (xJ h J1) Q from H p 0 J0 _ (by omega) hyo0 (fun j hj => by
      rw [show yB 0 = 1 from rfl, Nat.mod_one, Nat.zero_mul, yg_z]; exact hz0 j hj) (fun z hz => hz)
  intro n
  induction n with
  | zero =>
    intro i J1 lv0 hi hyo hP hlv
    refine aw_lv hlv ?_
    obtain rfl : i = p := by omega
    have hxR1 := NR_o hT0 hA0 hat hyo hxR
    obtain ⟨-, -, x3', -⟩ := id hxR1
    refine sX5_setProduct_31 rfl ?_
    refine sX5_setProduct_33 rfl ?_
    refine jX5_setProduct_34 (by assumption) ?_
    rw [x3']
    refine nX5_setProduct_37 (by omega) (by omega) (fun _ => ?_) (fun hc => absurd hc (by omega))
    rw [Nat.mod_eq_of_lt x2] at hP
    refine sX5_setProduct_164 rfl ?_
    refine sX5_setProduct_165 rfl ?_
    refine jX5_setProduct_166 (by assumption) ?_
    refine sX5_setProduct_169 rfl ?_
    refine jX5_setProduct_170 (Nat.le_of_ble_eq_true rfl) (by assumption) ?_
    refine c_trim (s := A) (v := x * y) hT0 (by omega) ⟨hAc, hDA, by rw [xup2_s], fun j hj => by rw [xup2_r (by omega)]; exact hP j hj⟩ (fun J2 hyo2 hN2 => ?_)
    refine sX5_setProduct_173 ?_
    exact k J2 (yo_tr hyo (yo_tr yo_s hyo2)) hN2
  | succ n ih =>
    intro i J1 lv0 hi hyo hP hlv
    refine aw_lv hlv ?_
    have hxR1 := NR_o hT0 hA0 hat hyo hxR
    obtain ⟨-, -, x3', x4'⟩ := id hxR1
    refine sX5_setProduct_31 rfl ?_
    refine sX5_setProduct_33 rfl ?_
    refine jX5_setProduct_34 (by assumption) ?_
    rw [x3']
    refine nX5_setProduct_37 (by omega) (by omega) (fun hc => absurd hc (by omega)) (fun _ => ?_)
    have g0 := yg_lt x i
    refine sX5_setProduct_40 rfl ?_
    refine jX5_setProduct_41 (by assumption) (by assumption) ?_
    refine sX5_setProduct_44 rfl ?_
    refine jX5_setProduct_46 (by assumption) (by omega) (by omega) ?_
    rw [x4' i (by omega)]
    refine sX5_setProduct_47 ?_
    rw [nI_l (by omega)]
    obtain ⟨f, hf⟩ : ∃ f, f = yg x i := ⟨_, rfl⟩
    rw [← hf] at g0 ⊢
    obtain ⟨T, hTT⟩ : ∃ T, T = x % yB i * y := ⟨_, rfl⟩
    obtain ⟨U, hU⟩ : ∃ U, U = T + yB i * (f * y) := ⟨_, rfl⟩
    have hU2 : U = x % yB (i + 1) * y := by rw [ymod_s, Nat.add_mul, ← hTT, hU, ← hf, Nat.mul_assoc]
    have hUD : U ≤ x * y := by rw [hU2]; exact Nat.mul_le_mul_right _ (Nat.mod_le _ _)
    have hTB : yh T (i + q) = 0 := by
      apply yh_small
      rw [hTT, yB_add]
      exact Nat.mul_lt_mul'' (Nat.mod_lt _ (yB_pos i)) y2
    rw [← hTT] at hP
    refine sX5_setProduct_48 ?_
    refine sX5_setProduct_50 ?_
    refine sX5_setProduct_51 ?_
    refine nX5_setProduct_53 ?_
    refine sX5_setProduct_54 ?_
    have next : ∀ J2 lv1, yo t J J2 → (∀ j, j < A → J2 (t + 1) j = nI (yg U j)) → (∀ z ∈ ([(0, .ref t), (1, .ref a), (2, .ref b), (3, .int (nI A)), (4, .int (nI i))] : List (Nat × Value)), z ∈ lv1) → aw g l mX5_setProduct 158 lv1 [] (xJ h J2) Q := by
      intro J2 lv1 hyo2 hP2 hl2
      refine aw_lv hl2 ?_
      refine nX5_setProduct_158 rfl ?_
      refine sX5_setProduct_161 ?_
      rw [hU2] at hP2
      exact ih (i + 1) J2 _ (by omega) hyo2 hP2 (fun z hz => by
        simp only [List.mem_cons, List.not_mem_nil, or_false] at hz
        rcases hz with rfl | rfl | rfl | rfl | rfl <;> exact xlk_mem rfl)
    have l132 : ∀ j cr J2 lv1, j ≤ q → (j = q ∨ i + j = A) → i + j ≤ A → cr < 1073741824 → yh U (i + j) = yh T (i + j) + f * yh y j + cr → yo t J J2 → (∀ m, m < A → J2 (t + 1) m = nI (if m < i + j then yg U m else yg T m)) → (∀ z ∈ ([(0, .ref t), (1, .ref a), (2, .ref b), (3, .int (nI A)), (4, .int (nI i)), (7, .long (lN cr))] : List (Nat × Value)), z ∈ lv1) → aw g l mX5_setProduct 132 lv1 [] (xJ h J2) Q := by
      intro j cr J2 lv1 hjq hj2 hjA hcr hz hyo2 hP2 hl2
      refine aw_lv hl2 ?_
      obtain ⟨-, -, y3', -⟩ := NR_o hT0 hB0 hbt hyo2 hyR
      refine sX5_setProduct_132 rfl ?_
      refine sX5_setProduct_134 rfl ?_
      refine jX5_setProduct_135 (by assumption) ?_
      rw [y3']
      refine nX5_setProduct_138 ?_
      refine sX5_setProduct_139 rfl ?_
      refine nX5_setProduct_140 (by omega) (by omega) (fun hc => ?_) (fun hc => ?_)
      · have hE : i + j = A := by omega
        exact next J2 _ hyo2 (fun m hm => by rw [hP2 m hm, if_pos (by omega)]) (fun z hz => by
          simp only [List.mem_cons, List.not_mem_nil, or_false] at hz
          rcases hz with rfl | rfl | rfl | rfl | rfl <;> exact xlk_mem rfl)
      · obtain rfl : j = q := by omega
        rw [hTB, yh_small y2, Nat.mul_zero, Nat.zero_add] at hz
        refine sX5_setProduct_143 rfl ?_
        refine jX5_setProduct_144 (by assumption) (by assumption) ?_
        refine sX5_setProduct_147 rfl ?_
        refine sX5_setProduct_149 rfl ?_
        refine jX5_setProduct_150 (by assumption) ?_
        rw [y3']
        refine nX5_setProduct_153 ?_
        refine sX5_setProduct_154 rfl ?_
        refine sX5_setProduct_156 ?_
        rw [lN_i]
        refine jX5_setProduct_157 (by assumption) (by omega) (by omega) ?_
        have hUz : yh U (i + j + 1) = 0 := by rw [yh_s, hz]; omega
        refine next _ _ (yo_tr hyo2 yo_l) (fun m hm => ?_) (fun z hz => by
          simp only [List.mem_cons, List.not_mem_nil, or_false] at hz
          rcases hz with rfl | rfl | rfl | rfl | rfl <;> exact xlk_mem rfl)
        by_cases e : m = i + j
        · subst e; rw [xup2_s]; congr 1; unfold yg; rw [hz]; omega
        · rw [xup2_n e, hP2 m hm]
          by_cases e2 : m < i + j
          · rw [if_pos e2]
          · rw [if_neg e2, yg_up hUz (by omega), yg_up hTB (by omega)]
    suffices H2 : ∀ n2 j cr J2 lv1, j + n2 = q → i + j ≤ A → cr < 1073741824 → yh U (i + j) = yh T (i + j) + f * yh y j + cr → yo t J J2 → (∀ m, m < A → J2 (t + 1) m = nI (if m < i + j then yg U m else yg T m)) → (∀ z ∈ ([(0, .ref t), (1, .ref a), (2, .ref b), (3, .int (nI A)), (4, .int (nI i)), (5, .long (lN f)), (7, .long (lN cr)), (9, .int (nI j))] : List (Nat × Value)), z ∈ lv1) → aw g l mX5_setProduct 56 lv1 [] (xJ h J2) Q from H2 q 0 0 J1 _ (by omega) (by omega) (by omega) (by
        rw [Nat.add_zero, yh_0, Nat.add_zero, hU]
        unfold yh
        rw [Nat.add_mul_div_left _ _ (yB_pos i)]) hyo (fun m hm => by
          rw [hP m hm]
          by_cases e : m < i + 0
          · rw [if_pos e, hU, yg_low (by omega)]
          · rw [if_neg e]) (fun z hz => by
        simp only [List.mem_cons, List.not_mem_nil, or_false] at hz
        rcases hz with rfl | rfl | rfl | rfl | rfl | rfl | rfl | rfl <;> exact xlk_mem rfl)
    intro n2
    induction n2 with
    | zero =>
      intro j cr J2 lv1 hj hjA hcr hz hyo2 hP2 hl2
      refine aw_lv hl2 ?_
      obtain ⟨-, -, y3', -⟩ := NR_o hT0 hB0 hbt hyo2 hyR
      refine sX5_setProduct_56 rfl ?_
      refine sX5_setProduct_58 rfl ?_
      refine jX5_setProduct_59 (by assumption) ?_
      rw [y3']
      refine nX5_setProduct_62 (by omega) (by omega) (fun _ => ?_) (fun hc => absurd hc (by omega))
      exact l132 j cr J2 _ (by omega) (Or.inl (by omega)) hjA hcr hz hyo2 hP2 (fun z hz => by
        simp only [List.mem_cons, List.not_mem_nil, or_false] at hz
        rcases hz with rfl | rfl | rfl | rfl | rfl | rfl <;> exact xlk_mem rfl)
    | succ n2 ih2 =>
      intro j cr J2 lv1 hj hjA hcr hz hyo2 hP2 hl2
      refine aw_lv hl2 ?_
      obtain ⟨-, -, y3', y4'⟩ := NR_o hT0 hB0 hbt hyo2 hyR
      refine sX5_setProduct_56 rfl ?_
      refine sX5_setProduct_58 rfl ?_
      refine jX5_setProduct_59 (by assumption) ?_
      rw [y3']
      refine nX5_setProduct_62 (by omega) (by omega) (fun hc => absurd hc (by omega)) (fun _ => ?_)
      refine sX5_setProduct_65 rfl ?_
      refine sX5_setProduct_67 rfl ?_
      refine nX5_setProduct_69 ?_
      refine sX5_setProduct_70 rfl ?_
      refine nX5_setProduct_71 (by omega) (by omega) (fun hc => ?_) (fun hc => ?_)
      · exact l132 j cr J2 _ (by omega) (Or.inr (by omega)) hjA hcr hz hyo2 hP2 (fun z hz => by
          simp only [List.mem_cons, List.not_mem_nil, or_false] at hz
          rcases hz with rfl | rfl | rfl | rfl | rfl | rfl <;> exact xlk_mem rfl)
      · have e1 := yh_eq T (i + j)
        have e2 := yh_eq y j
        have e3 := yh_eq U (i + j)
        have g1 := yg_lt T (i + j)
        have g2 := yg_lt y j
        have g3 := yg_lt U (i + j)
        have hm : f * yg y j ≤ 1073741823 * 1073741823 := Nat.mul_le_mul (by omega) (by omega)
        have e4 : f * yh y j = 1073741824 * (f * yh y (j + 1)) + f * yg y j := by
          rw [e2, Nat.mul_add]
          congr 1
          rw [← Nat.mul_assoc, ← Nat.mul_assoc, Nat.mul_comm f 1073741824]
        rw [e4] at hz
        refine sX5_setProduct_74 rfl ?_
        refine sX5_setProduct_76 rfl ?_
        refine sX5_setProduct_78 rfl ?_
        refine jX5_setProduct_79 (by assumption) (by assumption) ?_
        refine sX5_setProduct_82 rfl ?_
        refine jX5_setProduct_84 (by assumption) (by omega) (by omega) ?_
        rw [y4' j (by omega)]
        refine sX5_setProduct_85 ?_
        rw [nI_l (by omega)]
        refine sX5_setProduct_86 ?_
        rw [lN_mul]
        refine sX5_setProduct_87 rfl ?_
        refine jX5_setProduct_88 (by assumption) (by assumption) ?_
        refine sX5_setProduct_91 rfl ?_
        refine sX5_setProduct_93 rfl ?_
        refine nX5_setProduct_95 ?_
        refine jX5_setProduct_96 (by assumption) (by omega) (by omega) ?_
        rw [hP2 (i + j) hc, if_neg (by omega)]
        refine sX5_setProduct_97 ?_
        rw [nI_l (by omega)]
        refine sX5_setProduct_98 ?_
        refine sX5_setProduct_99 ?_
        rw [lN_add, lN_add]
        obtain ⟨w, hw⟩ : ∃ w, w = cr + (f * yg y j + yg T (i + j)) := ⟨_, rfl⟩
        rw [← hw]
        have hwB : w < 2 ^ 62 := by omega
        refine sX5_setProduct_100 ?_
        refine sX5_setProduct_102 rfl ?_
        refine jX5_setProduct_103 (by assumption) (by assumption) ?_
        refine sX5_setProduct_106 rfl ?_
        refine sX5_setProduct_108 rfl ?_
        refine nX5_setProduct_110 ?_
        refine sX5_setProduct_111 rfl ?_
        refine sX5_setProduct_113 ?_
        refine sX5_setProduct_116 ?_
        rw [lN_mask (by omega)]
        refine sX5_setProduct_117 ?_
        rw [lN_i]
        refine jX5_setProduct_118 (by assumption) (by omega) (by omega) ?_
        refine sX5_setProduct_119 rfl ?_
        refine nX5_setProduct_121 ?_
        refine sX5_setProduct_123 ?_
        rw [lN_shr30 hwB]
        refine sX5_setProduct_124 ?_
        refine nX5_setProduct_126 rfl ?_
        refine sX5_setProduct_129 ?_
        refine ih2 (j + 1) (w / 1073741824) _ _ (by omega) (by omega) (by omega) (by rw [← Nat.add_assoc]; omega) (yo_tr hyo2 yo_l) (fun m hm9 => ?_) (fun z hz => by
          simp only [List.mem_cons, List.not_mem_nil, or_false] at hz
          rcases hz with rfl | rfl | rfl | rfl | rfl | rfl | rfl | rfl <;> exact xlk_mem rfl)
        by_cases e : m = i + j
        · subst e; rw [xup2_s, if_pos (by omega)]; congr 1; omega
        · rw [xup2_n e, hP2 m hm9]
          by_cases e9 : m < i + j
          · rw [if_pos e9, if_pos (by omega)]
          · rw [if_neg e9, if_neg (by omega)]
/-- the table of tens -/
def CT (g : xG) (h : xH) (J : Nat → Nat → Int32) : Prop := xT h g.2.2.2 = (104, 10) ∧ ∀ i, i < 10 → J g.2.2.2 i = nI (10 ^ i)
theorem CT_o {J' : Nat → Nat → Int32} {a c : Nat} (hT : CT g h J) (hC : CN h a c) (ho : yo a J J') : CT g h J' := by
  refine ⟨hT.1, fun i hi => ?_⟩
  rw [ho g.2.2.2 (fun e => ?_) (fun e => ?_)]
  · exact hT.2 i hi
  · have := hC.1; rw [← e, hT.1] at this; cases this
  · have := hC.2.2; rw [← e, hT.1] at this; cases this
theorem c_timesTens {a c v n : Nat} (hC : CN h a c) (hc : c < 2 ^ 31) (hn : n < 2 ^ 30) (hT : CT g h J) (hN : NJ J a c v) (hs : v * 10 ^ n < yB c) (k : ∀ J', yo a J J' → NJ J' a c (v * 10 ^ n) → Q none (xJ h J')) : ac g l mX5_timesTens [.ref a, .int (nI n)] (xJ h J) Q := by
  refine ac_of (by decide) (Nat.le_of_ble_eq_true rfl) ?_
  have hC0 := hC
  obtain ⟨t1, t2, t3⟩ := hC
  refine sX5_timesTens_0 rfl ?_
  refine sX5_timesTens_1 ?_
  suffices H : ∀ w m J1 v1 lv0, m ≤ w → m < 2 ^ 30 → yo a J J1 → CT g h J1 → NJ J1 a c v1 → v1 * 10 ^ m = v * 10 ^ n → (∀ z ∈ ([(0, .ref a), (2, .int (nI m))] : List (Nat × Value)), z ∈ lv0) → aw g l mX5_timesTens 2 lv0 [] (xJ h J1) Q from H n n J v _ (Nat.le_refl _) hn (yo_rf a J) hT hN rfl (fun z hz => by
      simp only [List.mem_cons, List.not_mem_nil, or_false] at hz
      rcases hz with rfl | rfl <;> exact xlk_mem rfl)
  have fin : ∀ J1 lv0, yo a J J1 → NJ J1 a c (v * 10 ^ n) → aw g l mX5_timesTens 27 lv0 [] (xJ h J1) Q := by
    intro J1 lv0 hyo hN1
    refine sX5_timesTens_27 ?_
    exact k J1 hyo hN1
  intro w
  induction w with
  | zero =>
    intro m J1 v1 lv0 hm hm2 hyo hT1 hN1 he hlv
    refine aw_lv hlv ?_
    obtain rfl : m = 0 := by omega
    refine sX5_timesTens_2 rfl ?_
    refine nX5_timesTens_3 (by omega) (fun _ => ?_) (fun hc => absurd hc (by omega))
    rw [Nat.pow_zero, Nat.mul_one] at he
    rw [he] at hN1
    exact fin J1 _ hyo hN1
  | succ w ih =>
    intro m J1 v1 lv0 hm hm2 hyo hT1 hN1 he hlv
    refine aw_lv hlv ?_
    refine sX5_timesTens_2 rfl ?_
    refine nX5_timesTens_3 (by omega) (fun hz => ?_) (fun hz => ?_)
    · subst hz
      rw [Nat.pow_zero, Nat.mul_one] at he
      rw [he] at hN1
      exact fin J1 _ hyo hN1
    · refine sX5_timesTens_6 rfl ?_
      refine sX5_timesTens_7 ?_
      refine sX5_timesTens_10 rfl ?_
      refine nX5_timesTens_11 ?_
      refine mX5_timesTens_13n (Nat.le_of_ble_eq_true rfl) (by omega) (by omega) ?_
      obtain ⟨e, hE⟩ : ∃ e, e = min m 9 := ⟨_, rfl⟩
      rw [← hE]
      have he9 : e ≤ 9 := by omega
      refine jX5_timesTens_16F hT1.1 (by omega) (by omega) ?_
      rw [hT1.2 e (by omega)]
      refine nX5_timesTens_17 ?_
      have hp1 : 10 ^ e ≤ 10 ^ 9 := Nat.pow_le_pow_right (by decide) he9
      have hp2 : 0 < 10 ^ e := Nat.pow_pos (by decide)
      have hsp : v1 * 10 ^ e * 10 ^ (m - e) = v * 10 ^ n := by rw [Nat.mul_assoc, ← Nat.pow_add, show e + (m - e) = m by omega, he]
      have hle : v1 * 10 ^ e ≤ v * 10 ^ n := by
        rw [← hsp]
        exact Nat.le_mul_of_pos_right _ (Nat.pow_pos (by decide))
      refine jX5_timesTens_18 (Nat.le_of_ble_eq_true rfl) (by assumption) ?_
      refine c_timesPlus hC0 hc hp2 (by omega) (by omega) hN1 (by omega) (fun J2 hyo2 hN2 => ?_)
      rw [Nat.add_zero] at hN2
      refine sX5_timesTens_21 rfl ?_
      refine sX5_timesTens_24 ?_
      rw [show (-9 : Int32) = -nI 9 from rfl]
      by_cases h9 : 9 ≤ m
      · have e9 : e = 9 := by omega
        rw [nI_msub h9]
        exact ih (m - 9) J2 (v1 * 10 ^ e) _ (by omega) (by omega) (yo_tr hyo hyo2) (CT_o hT1 hC0 hyo2) hN2 (by rw [← hsp, e9]) (fun z hz => by
          simp only [List.mem_cons, List.not_mem_nil, or_false] at hz
          rcases hz with rfl | rfl <;> exact xlk_mem rfl)
      · have e9 : e = m := by omega
        have hng : nI m + -nI 9 < 0 := by
          rw [← Int32.sub_eq_add_neg]
          exact pk_sneg (by decide) (by omega)
        refine sX5_timesTens_2 rfl ?_
        refine sX5_timesTens_3 (fun _ => ?_) (fun hc => absurd (Int32.le_of_lt hng) hc)
        rw [e9, Nat.sub_self, Nat.pow_zero, Nat.mul_one] at hsp
        rw [e9, hsp] at hN2
        exact fin J2 _ (yo_tr hyo hyo2) hN2
end Nat4
