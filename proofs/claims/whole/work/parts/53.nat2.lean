def YP (J : Nat → Nat → Int32) (a s : Nat) (f : Nat → Nat) : Prop := ∀ i, i < s → J (a + 1) i = nI (f i)
def ym (i D v : Nat) : Nat → Nat := fun j => if j < i then yg D j else yg v j
theorem YP_go {J : Nat → Nat → Int32} {a s i D v x : Nat} (h : YP J a s (ym i D v)) (hx : x = yg D i) : YP (xup2 J (a + 1) i (nI x)) a s (ym (i + 1) D v) := by
  intro j hj
  unfold ym
  by_cases e : j = i
  · subst e; rw [xup2_s, if_pos (by omega), hx]
  · rw [xup2_n e, h j hj]
    unfold ym
    by_cases e2 : j < i
    · rw [if_pos e2, if_pos (by omega)]
    · rw [if_neg e2, if_neg (by omega)]
theorem YP_own {J : Nat → Nat → Int32} {a s i D v : Nat} (h : YP J a s (ym i D v)) (hi : i < s) : J (a + 1) i = nI (yg v i) := by
  rw [h i hi]; unfold ym; rw [if_neg (by omega)]
def ymd (t D v : Nat) : Nat → Nat := fun j => if t ≤ j then yg D j else yg v j
theorem YPd_go {J : Nat → Nat → Int32} {a s t D v x : Nat} (h : YP J a s (ymd (t + 1) D v)) (hx : x = yg D t) : YP (xup2 J (a + 1) t (nI x)) a s (ymd t D v) := by
  intro j hj
  unfold ymd
  by_cases e : j = t
  · subst e; rw [xup2_s, if_pos (by omega), hx]
  · rw [xup2_n e, h j hj]
    unfold ymd
    by_cases e2 : t + 1 ≤ j
    · rw [if_pos e2, if_pos (by omega)]
    · rw [if_neg e2, if_neg (by omega)]
theorem YPd_own {J : Nat → Nat → Int32} {a s t D v : Nat} (h : YP J a s (ymd (t + 1) D v)) (hi : t < s) : J (a + 1) t = nI (yg v t) := by
  rw [h t hi]; unfold ymd; rw [if_neg (by omega)]
theorem nI_msub {a c : Nat} (h : c ≤ a) : nI a + -nI c = nI (a - c) := by rw [← Int32.sub_eq_add_neg, pk_sub h]
theorem lN_mask {n : Nat} (h : n < 2 ^ 64) : lN n &&& 1073741823 = lN (n % 1073741824) := wb_mask (k := 30) h (by decide)
theorem lN_shr30 {n : Nat} (h : n < 2 ^ 62) : lN n >>> ((nI 30).toInt64 &&& 63) = lN (n / 1073741824) := pf_shr (d := 30) (by decide +kernel) h
theorem lN_shl30 (n : Nat) : lN n <<< ((nI 30).toInt64 &&& 63) = lN (n * 1073741824) := wb_shl n (k := 30) (by decide)
section Nat2
variable {g : xG} {l : Launch} {h : xH} {J : Nat → Nat → Int32} {Q : Option Value → xH → Prop}
theorem c_nlz {x : Nat} (h0 : 0 < x) (hx : x < 2 ^ 31) (k : ∀ r, r ≤ 31 → 2 ^ (31 - r) ≤ x → x < 2 ^ (32 - r) → Q (some (.int (nI r))) h) : ac g l mJ6_numberOfLeadingZeros_0f7a4 [.int (nI x)] h Q := by
  refine ac_of (by decide) (Nat.le_of_ble_eq_true rfl) ?_
  have l73 : ∀ p y lv0, p ≤ 30 → x / 2 ^ p = y → 0 < y → y < 4 → (∀ z ∈ ([(0, .int (nI y)), (1, .int (nI (31 - p)))] : List (Nat × Value)), z ∈ lv0) → aw g l mJ6_numberOfLeadingZeros_0f7a4 73 lv0 [] h Q := by
    intro p y lv0 hp hy y0 y4 hl
    refine aw_lv hl ?_
    refine sJ6_numberOfLeadingZeros_0f7a4_73 rfl ?_
    refine sJ6_numberOfLeadingZeros_0f7a4_74 rfl ?_
    refine nJ6_numberOfLeadingZeros_0f7a4_75 ?_
    refine sJ6_numberOfLeadingZeros_0f7a4_76 ?_
    rw [pk_ushrN (by omega) _ 1 (by decide)]
    have y2 : y / 2 ^ 1 ≤ 1 := by rw [Nat.pow_one]; omega
    refine nJ6_numberOfLeadingZeros_0f7a4_77 (by omega) ?_
    refine sJ6_numberOfLeadingZeros_0f7a4_78 (k _ (by omega) ?_ ?_)
    all_goals
      rw [Nat.pow_one] at y2 ⊢
      have q1 := Nat.div_add_mod x (2 ^ p)
      have q2 := Nat.mod_lt x (Nat.pow_pos (n := p) (show 0 < 2 by decide))
      rw [hy] at q1
      rcases (show y = 1 ∨ y = 2 ∨ y = 3 by omega) with e | e | e <;> subst e
    · rw [show 31 - (31 - p - 1 / 2) = p by omega]; omega
    · rw [show 31 - (31 - p - 2 / 2) = p + 1 by omega, Nat.pow_succ]; omega
    · rw [show 31 - (31 - p - 3 / 2) = p + 1 by omega, Nat.pow_succ]; omega
    · rw [show 32 - (31 - p - 1 / 2) = p + 1 by omega, Nat.pow_succ]; omega
    · rw [show 32 - (31 - p - 2 / 2) = p + 1 + 1 by omega, Nat.pow_succ, Nat.pow_succ]; omega
    · rw [show 32 - (31 - p - 3 / 2) = p + 1 + 1 by omega, Nat.pow_succ, Nat.pow_succ]; omega
  have l61 : ∀ p y lv0, p ≤ 28 → x / 2 ^ p = y → 0 < y → y < 16 → (∀ z ∈ ([(0, .int (nI y)), (1, .int (nI (31 - p)))] : List (Nat × Value)), z ∈ lv0) → aw g l mJ6_numberOfLeadingZeros_0f7a4 61 lv0 [] h Q := by
    intro p y lv0 hp hy y0 y4 hl
    refine aw_lv hl ?_
    refine sJ6_numberOfLeadingZeros_0f7a4_61 rfl ?_
    refine nJ6_numberOfLeadingZeros_0f7a4_62 ?_
    refine nJ6_numberOfLeadingZeros_0f7a4_63 (by omega) (by omega) (fun hc => ?_) (fun hc => ?_)
    · exact l73 p y _ (by omega) hy y0 hc (fun z hz => hz)
    · refine sJ6_numberOfLeadingZeros_0f7a4_66 rfl ?_
      rw [show (-2 : Int32) = -nI 2 from rfl, nI_msub (by omega)]
      refine sJ6_numberOfLeadingZeros_0f7a4_69 rfl ?_
      refine nJ6_numberOfLeadingZeros_0f7a4_70 ?_
      refine sJ6_numberOfLeadingZeros_0f7a4_71 ?_
      rw [pk_ushrN (by omega) _ 2 (by decide)]
      refine sJ6_numberOfLeadingZeros_0f7a4_72 ?_
      refine l73 (p + 2) (y / 2 ^ 2) _ (by omega) (by rw [← hy, Nat.div_div_eq_div_mul, ← Nat.pow_add]) (by simp; omega) (by simp; omega) (fun z hz => by
        simp only [List.mem_cons, List.not_mem_nil, or_false] at hz
        rw [show 31 - (p + 2) = 31 - p - 2 by omega] at hz
        rcases hz with rfl | rfl <;> exact xlk_mem rfl)
  have l48 : ∀ p y lv0, p ≤ 24 → x / 2 ^ p = y → 0 < y → y < 256 → (∀ z ∈ ([(0, .int (nI y)), (1, .int (nI (31 - p)))] : List (Nat × Value)), z ∈ lv0) → aw g l mJ6_numberOfLeadingZeros_0f7a4 48 lv0 [] h Q := by
    intro p y lv0 hp hy y0 y4 hl
    refine aw_lv hl ?_
    refine sJ6_numberOfLeadingZeros_0f7a4_48 rfl ?_
    refine nJ6_numberOfLeadingZeros_0f7a4_49 ?_
    refine nJ6_numberOfLeadingZeros_0f7a4_51 (by omega) (by omega) (fun hc => ?_) (fun hc => ?_)
    · exact l61 p y _ (by omega) hy y0 hc (fun z hz => hz)
    · refine sJ6_numberOfLeadingZeros_0f7a4_54 rfl ?_
      rw [show (-4 : Int32) = -nI 4 from rfl, nI_msub (by omega)]
      refine sJ6_numberOfLeadingZeros_0f7a4_57 rfl ?_
      refine nJ6_numberOfLeadingZeros_0f7a4_58 ?_
      refine sJ6_numberOfLeadingZeros_0f7a4_59 ?_
      rw [pk_ushrN (by omega) _ 4 (by decide)]
      refine sJ6_numberOfLeadingZeros_0f7a4_60 ?_
      refine l61 (p + 4) (y / 2 ^ 4) _ (by omega) (by rw [← hy, Nat.div_div_eq_div_mul, ← Nat.pow_add]) (by simp; omega) (by simp; omega) (fun z hz => by
        simp only [List.mem_cons, List.not_mem_nil, or_false] at hz
        rw [show 31 - (p + 4) = 31 - p - 4 by omega] at hz
        rcases hz with rfl | rfl <;> exact xlk_mem rfl)
  have l33 : ∀ p y lv0, p ≤ 16 → x / 2 ^ p = y → 0 < y → y < 65536 → (∀ z ∈ ([(0, .int (nI y)), (1, .int (nI (31 - p)))] : List (Nat × Value)), z ∈ lv0) → aw g l mJ6_numberOfLeadingZeros_0f7a4 33 lv0 [] h Q := by
    intro p y lv0 hp hy y0 y4 hl
    refine aw_lv hl ?_
    refine sJ6_numberOfLeadingZeros_0f7a4_33 rfl ?_
    refine nJ6_numberOfLeadingZeros_0f7a4_34 ?_
    refine nJ6_numberOfLeadingZeros_0f7a4_37 (by omega) (by omega) (fun hc => ?_) (fun hc => ?_)
    · exact l48 p y _ (by omega) hy y0 hc (fun z hz => hz)
    · refine sJ6_numberOfLeadingZeros_0f7a4_40 rfl ?_
      rw [show (-8 : Int32) = -nI 8 from rfl, nI_msub (by omega)]
      refine sJ6_numberOfLeadingZeros_0f7a4_43 rfl ?_
      refine nJ6_numberOfLeadingZeros_0f7a4_44 ?_
      refine sJ6_numberOfLeadingZeros_0f7a4_46 ?_
      rw [pk_ushrN (by omega) _ 8 (by decide)]
      refine sJ6_numberOfLeadingZeros_0f7a4_47 ?_
      refine l48 (p + 8) (y / 2 ^ 8) _ (by omega) (by rw [← hy, Nat.div_div_eq_div_mul, ← Nat.pow_add]) (by simp; omega) (by simp; omega) (fun z hz => by
        simp only [List.mem_cons, List.not_mem_nil, or_false] at hz
        rw [show 31 - (p + 8) = 31 - p - 8 by omega] at hz
        rcases hz with rfl | rfl <;> exact xlk_mem rfl)
  refine sJ6_numberOfLeadingZeros_0f7a4_0 rfl ?_
  refine nJ6_numberOfLeadingZeros_0f7a4_1 (by omega) (fun _ => ?_) (fun hc => absurd hc (by omega))
  refine nJ6_numberOfLeadingZeros_0f7a4_15 ?_
  refine sJ6_numberOfLeadingZeros_0f7a4_17 ?_
  refine sJ6_numberOfLeadingZeros_0f7a4_18 rfl ?_
  refine nJ6_numberOfLeadingZeros_0f7a4_19 ?_
  refine nJ6_numberOfLeadingZeros_0f7a4_22 (by omega) (by omega) (fun hc => ?_) (fun hc => ?_)
  · exact l33 0 x _ (by omega) (by rw [Nat.pow_zero, Nat.div_one]) h0 hc (fun z hz => hz)
  · refine sJ6_numberOfLeadingZeros_0f7a4_25 rfl ?_
    rw [show (-16 : Int32) = -nI 16 from rfl, nI_msub (by omega)]
    refine sJ6_numberOfLeadingZeros_0f7a4_28 rfl ?_
    refine nJ6_numberOfLeadingZeros_0f7a4_29 ?_
    refine sJ6_numberOfLeadingZeros_0f7a4_31 ?_
    rw [pk_ushrN (by omega) _ 16 (by decide)]
    refine sJ6_numberOfLeadingZeros_0f7a4_32 ?_
    refine l33 16 (x / 2 ^ 16) _ (by omega) rfl (by simp; omega) (by simp; omega) (fun z hz => by
        simp only [List.mem_cons, List.not_mem_nil, or_false] at hz
        rcases hz with rfl | rfl <;> exact xlk_mem rfl)
theorem c_bitLength {a c v : Nat} (hC : CN h a c) (hc : c ≤ 1000) (hN : NJ J a c v) (k : ∀ L, zL v L → L ≤ 30 * c → Q (some (.int (nI L))) (xJ h J)) : ac g l mX5_bitLength [.ref a] (xJ h J) Q := by
  refine ac_of (by decide) (Nat.le_of_ble_eq_true rfl) ?_
  obtain ⟨t1, t2, t3⟩ := hC
  obtain ⟨s, ⟨h1, h2, h3, h4⟩, hl⟩ := hN
  refine sX5_bitLength_0 rfl ?_
  refine jX5_bitLength_1 (by assumption) ?_
  rw [h3]
  refine nX5_bitLength_4 (by omega) (fun hs => ?_) (fun hs => ?_)
  · have htop := yl_top hl (by omega)
    have hg := yg_lt v (s - 1)
    refine sX5_bitLength_9 rfl ?_
    refine jX5_bitLength_10 (by assumption) ?_
    rw [h3]
    refine nX5_bitLength_13 ?_
    refine nX5_bitLength_15 ?_
    refine nX5_bitLength_16 ?_
    refine nX5_bitLength_17 ?_
    refine sX5_bitLength_18 rfl ?_
    refine jX5_bitLength_19 (by assumption) (by assumption) ?_
    refine sX5_bitLength_22 rfl ?_
    refine jX5_bitLength_23 (by assumption) ?_
    rw [h3]
    refine nX5_bitLength_26 ?_
    refine nX5_bitLength_27 (by omega) ?_
    refine jX5_bitLength_28 (by assumption) (by omega) (by omega) ?_
    rw [h4 (s - 1) (by omega)]
    refine sX5_bitLength_29 (Nat.le_of_ble_eq_true rfl) ?_
    refine c_nlz htop.2 (by omega) (fun r hr q1 q2 => ?_)
    refine nX5_bitLength_32 (by omega) ?_
    refine sX5_bitLength_33 (k _ ?_ ?_)
    · have e1 : v / yB (s - 1) = yg v (s - 1) := htop.1
      have p1 := Nat.div_add_mod v (yB (s - 1))
      have p2 := Nat.mod_lt v (yB_pos (s - 1))
      rw [e1] at p1
      refine ⟨?_, Or.inr ?_⟩
      · rw [show s * 30 + 2 - r = 30 * (s - 1) + (32 - r) by omega, Nat.pow_add, ← yB_two]
        have : yB (s - 1) * (yg v (s - 1) + 1) ≤ yB (s - 1) * 2 ^ (32 - r) := Nat.mul_le_mul_left _ q2
        rw [Nat.mul_add, Nat.mul_one] at this
        omega
      · rw [show s * 30 + 2 - r - 1 = 30 * (s - 1) + (31 - r) by omega, Nat.pow_add, ← yB_two]
        have : yB (s - 1) * 2 ^ (31 - r) ≤ yB (s - 1) * yg v (s - 1) := Nat.mul_le_mul_left _ q1
        omega
    · have r2 : 2 ≤ r := by
        rcases Nat.lt_or_ge r 2 with q | q
        · have : 2 ^ 30 ≤ 2 ^ (31 - r) := Nat.pow_le_pow_right (by decide) (by omega)
          omega
        · exact q
      omega
  · subst hs
    refine nX5_bitLength_7 ?_
    refine sX5_bitLength_8 (k 0 ⟨h2, Or.inl rfl⟩ (by omega))
theorem c_timesPlus {a c v f o : Nat} (hC : CN h a c) (hc : c < 2 ^ 31) (hf0 : 0 < f) (hf : f ≤ 1073741824) (ho : o < 1073741824) (hN : NJ J a c v) (hs : v * f + o < yB c) (k : ∀ J', yo a J J' → NJ J' a c (v * f + o) → Q none (xJ h J')) : ac g l mX5_timesPlus [.ref a, .int (nI f), .int (nI o)] (xJ h J) Q := by
  refine ac_of (by decide) (Nat.le_of_ble_eq_true rfl) ?_
  obtain ⟨t1, t2, t3⟩ := hC
  obtain ⟨s, ⟨h1, h2, h3, h4⟩, hl⟩ := hN
  obtain ⟨D, hD⟩ : ∃ D, D = v * f + o := ⟨_, rfl⟩
  rw [← hD] at k hs
  refine sX5_timesPlus_0 rfl ?_
  refine sX5_timesPlus_1 ?_
  rw [nI_l (by omega)]
  refine sX5_timesPlus_2 ?_
  refine nX5_timesPlus_3 ?_
  refine sX5_timesPlus_4 ?_
  suffices H : ∀ t i cr J1 lv0, i + t = s → cr ≤ 1073741824 → yh D i = yh v i * f + cr → yo a J J1 → J1 a 1 = nI s → YP J1 a s (ym i D v) → (∀ q ∈ ([(0, .ref a), (1, .int (nI f)), (3, .long (lN cr)), (5, .int (nI i))] : List (Nat × Value)), q ∈ lv0) → aw g l mX5_timesPlus 6 lv0 [] (xJ h J1) Q from H s 0 o J _ (by omega) (by omega) (by rw [yh_0, yh_0]; exact hD) (yo_rf a J) h3 (fun i hi => by unfold ym; rw [if_neg (by omega)]; exact h4 i hi) (fun q hq => by
      simp only [List.mem_cons, List.not_mem_nil, or_false] at hq
      rcases hq with rfl | rfl | rfl | rfl <;> exact xlk_mem rfl)
  intro t
  induction t with
  | zero =>
    intro i cr J1 lv0 hi hcr hz hyo hsz hP hlv
    refine aw_lv hlv ?_
    obtain rfl : i = s := by omega
    rw [yh_small h2, Nat.zero_mul, Nat.zero_add] at hz
    refine sX5_timesPlus_6 rfl ?_
    refine sX5_timesPlus_8 rfl ?_
    refine jX5_timesPlus_9 (by assumption) ?_
    rw [hsz]
    refine nX5_timesPlus_12 (by omega) (by omega) (fun _ => ?_) (fun hc => absurd hc (by omega))
    refine sX5_timesPlus_53 rfl ?_
    refine sX5_timesPlus_54 ?_
    refine sX5_timesPlus_55 ?_
    have hvD : v ≤ D := by
      have : v * 1 ≤ v * f := Nat.mul_le_mul_left _ hf0
      omega
    by_cases hcz : cr = 0
    · subst hcz
      refine sX5_timesPlus_56 (fun _ => ?_) (fun hc => absurd (by decide) hc)
      refine sX5_timesPlus_92 ?_
      have hDB : D < yB i := yh_lt hz
      refine k J1 hyo ⟨i, ⟨h1, hDB, hsz, fun j hj => by rw [hP j hj]; unfold ym; rw [if_pos hj]⟩, hDB, ?_⟩
      rcases hl.2 with r | r
      · exact Or.inl r
      · exact Or.inr (by omega)
    · have hcr2 : cr < 1073741824 := by
        have hb : D < yB i * 1073741824 := by
          have q1 : v + 1 ≤ yB i := h2
          have q2 : (v + 1) * f ≤ yB i * 1073741824 := Nat.mul_le_mul q1 hf
          have q3 : v * 1073741824 + 1073741824 ≤ yB i * 1073741824 := by
            have := Nat.mul_le_mul_right 1073741824 q1
            rw [Nat.add_mul, Nat.one_mul] at this
            exact this
          have q4 : v * f ≤ v * 1073741824 := Nat.mul_le_mul_left _ hf
          omega
        have : yh D i < 1073741824 := (Nat.div_lt_iff_lt_mul (yB_pos i)).mpr (by rw [Nat.mul_comm]; exact hb)
        omega
      have hic : i < c := by
        rcases Nat.lt_or_ge i c with q | q
        · exact q
        · obtain rfl : i = c := by omega
          rw [yh_small hs] at hz; omega
      refine sX5_timesPlus_56 (fun hc => absurd ?_ hcz) (fun _ => ?_)
      · have hg : (0 : Int64) < lN cr := (pk_lLT (a := 0) (b := cr) (by decide) (by omega)).mpr (by omega)
        unfold lg_cmp at hc
        rw [if_pos hg] at hc
        exact absurd hc (by decide)
      refine sX5_timesPlus_59 rfl ?_
      refine jX5_timesPlus_60 (by assumption) ?_
      rw [hsz]
      refine sX5_timesPlus_63 rfl ?_
      refine jX5_timesPlus_64 (by assumption) (by assumption) ?_
      refine jX5_timesPlus_67 (by assumption) ?_
      refine nX5_timesPlus_68 (by omega) (by omega) (fun hc => absurd hc (by omega)) (fun _ => ?_)
      refine sX5_timesPlus_71 rfl ?_
      refine jX5_timesPlus_72 (by assumption) (by assumption) ?_
      refine sX5_timesPlus_75 rfl ?_
      refine jX5_timesPlus_76 (by assumption) ?_
      rw [hsz]
      refine sX5_timesPlus_79 rfl ?_
      refine sX5_timesPlus_80 ?_
      rw [lN_i]
      refine jX5_timesPlus_81 (by assumption) (by omega) (by omega) ?_
      refine sX5_timesPlus_82 rfl ?_
      refine sX5_timesPlus_83 rfl ?_
      refine jX5_timesPlus_84 (by assumption) ?_
      rw [xup2_r (show a ≠ a + 1 by omega), hsz]
      refine nX5_timesPlus_87 ?_
      refine nX5_timesPlus_88 ?_
      refine jX5_timesPlus_89 (by assumption) ?_
      refine sX5_timesPlus_92 ?_
      have hD2 : D < yB (i + 1) := yh_lt (by rw [yh_s, hz]; omega)
      refine k _ (yo_tr hyo (yo_tr yo_l yo_s)) ⟨i + 1, ⟨by omega, hD2, by rw [xup2_s], fun j hj => ?_⟩, yl_of hD2 (Or.inr ?_)⟩
      · rw [xup2_r (show a + 1 ≠ a by omega)]
        by_cases e : j = i
        · subst e
          rw [xup2_s]
          unfold yg; rw [hz, Nat.mod_eq_of_lt hcr2]
        · rw [xup2_n e, hP j (by omega)]
          unfold ym; rw [if_pos (by omega)]
      · rw [Nat.add_sub_cancel]
        unfold yg; rw [hz, Nat.mod_eq_of_lt hcr2]; omega
  | succ t ih =>
    intro i cr J1 lv0 hi hcr hz hyo hsz hP hlv
    refine aw_lv hlv ?_
    refine sX5_timesPlus_6 rfl ?_
    refine sX5_timesPlus_8 rfl ?_
    refine jX5_timesPlus_9 (by assumption) ?_
    rw [hsz]
    refine nX5_timesPlus_12 (by omega) (by omega) (fun hc => absurd hc (by omega)) (fun _ => ?_)
    have g1 := yg_lt v i
    have g3 := yg_lt D i
    have e1 := yh_eq v i
    have e3 := yh_eq D i
    have hm : yg v i * f ≤ 1073741823 * 1073741824 := Nat.mul_le_mul (by omega) hf
    have e4 : yh v i * f = 1073741824 * (yh v (i + 1) * f) + yg v i * f := by rw [e1, Nat.add_mul, Nat.mul_assoc]
    rw [e4] at hz
    refine sX5_timesPlus_15 rfl ?_
    refine sX5_timesPlus_16 rfl ?_
    refine jX5_timesPlus_17 (by assumption) (by assumption) ?_
    refine sX5_timesPlus_20 rfl ?_
    refine jX5_timesPlus_22 (by assumption) (by omega) (by omega) ?_
    rw [YP_own hP (by omega)]
    refine sX5_timesPlus_23 ?_
    refine sX5_timesPlus_24 rfl ?_
    refine sX5_timesPlus_25 ?_
    rw [nI_l (by omega), nI_l (by omega)]
    refine sX5_timesPlus_26 ?_
    refine sX5_timesPlus_27 ?_
    rw [lN_mul, lN_add]
    obtain ⟨w, hw⟩ : ∃ w, w = cr + yg v i * f := ⟨_, rfl⟩
    rw [← hw]
    have hwB : w < 2 ^ 62 := by omega
    refine sX5_timesPlus_28 ?_
    refine sX5_timesPlus_29 rfl ?_
    refine jX5_timesPlus_30 (by assumption) (by assumption) ?_
    refine sX5_timesPlus_33 rfl ?_
    refine sX5_timesPlus_35 rfl ?_
    refine sX5_timesPlus_36 ?_
    refine sX5_timesPlus_39 ?_
    rw [lN_mask (by omega)]
    refine sX5_timesPlus_40 ?_
    rw [lN_i]
    refine jX5_timesPlus_41 (by assumption) (by omega) (by omega) ?_
    refine sX5_timesPlus_42 rfl ?_
    refine nX5_timesPlus_43 ?_
    refine sX5_timesPlus_45 ?_
    rw [lN_shr30 hwB]
    refine sX5_timesPlus_46 ?_
    refine nX5_timesPlus_47 rfl ?_
    refine sX5_timesPlus_50 ?_
    refine ih (i + 1) (w / 1073741824) _ _ (by omega) (by omega) (by omega) (yo_tr hyo yo_l) (by rw [xup2_r (by omega)]; exact hsz) (YP_go hP (by omega)) (fun q hq => by
      simp only [List.mem_cons, List.not_mem_nil, or_false] at hq
      rcases hq with rfl | rfl | rfl | rfl <;> exact xlk_mem rfl)
theorem c_divideSmall5 {a c v y : Nat} (hC : CN h a c) (hc : c < 2 ^ 31) (hy0 : 0 < y) (hy : y ≤ 1073741824) (hN : NJ J a c v) (k : ∀ J', yo a J J' → NJ J' a c (v / y) → Q (some (.int (nI (v % y)))) (xJ h J')) : ac g l mX5_divideSmall [.ref a, .int (nI y)] (xJ h J) Q := by
  refine ac_of (by decide) (Nat.le_of_ble_eq_true rfl) ?_
  have hC0 := hC
  obtain ⟨t1, t2, t3⟩ := hC
  obtain ⟨s, ⟨h1, h2, h3, h4⟩, hl⟩ := hN
  have hDB : v / y < yB s := Nat.lt_of_le_of_lt (Nat.div_le_self _ _) h2
  refine sX5_divideSmall_0 ?_
  refine sX5_divideSmall_1 ?_
  refine sX5_divideSmall_2 rfl ?_
  refine nX5_divideSmall_3 (by omega) (fun _ => ?_) (fun hc => absurd hc (by omega))
  refine sX5_divideSmall_8 rfl ?_
  refine jX5_divideSmall_9 (by assumption) ?_
  rw [h3]
  refine sX5_divideSmall_12 ?_
  refine sX5_divideSmall_13 ?_
  refine sX5_divideSmall_14 ?_
  suffices H : ∀ t J1 lv0, t ≤ s → yo a J J1 → J1 a 1 = nI s → YP J1 a s (ymd t (v / y) v) → (∀ q ∈ ([(0, .ref a), (1, .int (nI y)), (2, .long (lN (yh v t % y))), (4, .int (nI t - 1))] : List (Nat × Value)), q ∈ lv0) → aw g l mX5_divideSmall 16 lv0 [] (xJ h J1) Q from H s J _ (Nat.le_refl _) (yo_rf a J) h3 (fun i hi => by unfold ymd; rw [if_neg (by omega)]; exact h4 i hi) (fun q hq => by
      rw [yh_small h2, Nat.zero_mod] at hq
      simp only [List.mem_cons, List.not_mem_nil, or_false] at hq
      rcases hq with rfl | rfl | rfl | rfl <;> exact xlk_mem rfl)
  intro t
  induction t with
  | zero =>
    intro J1 lv0 ht hyo hsz hP hlv
    refine aw_lv hlv ?_
    refine sX5_divideSmall_16 rfl ?_
    refine sX5_divideSmall_18 (fun _ => ?_) (fun hc => absurd nI_0m hc)
    refine sX5_divideSmall_61 rfl ?_
    refine jX5_divideSmall_62 (Nat.le_of_ble_eq_true rfl) (by assumption) ?_
    refine c_trim (s := s) hC0 hc ⟨h1, hDB, hsz, fun i hi => by rw [hP i hi]; unfold ymd; rw [if_pos (by omega)]⟩ (fun J2 hyo2 hN2 => ?_)
    refine sX5_divideSmall_65 rfl ?_
    refine sX5_divideSmall_66 ?_
    rw [yh_0, lN_i]
    exact sX5_divideSmall_67 (k J2 (yo_tr hyo hyo2) hN2)
  | succ t ih =>
    intro J1 lv0 ht hyo hsz hP hlv
    refine aw_lv hlv ?_
    rw [nI_pred]
    refine sX5_divideSmall_16 rfl ?_
    refine nX5_divideSmall_18 (by omega) ?_
    obtain ⟨r, hr⟩ : ∃ r, r = yh v (t + 1) % y := ⟨_, rfl⟩
    rw [← hr]
    have hry : r < y := by rw [hr]; exact Nat.mod_lt _ hy0
    have hg1 := yg_lt v t
    have e1 := yh_eq v t
    obtain ⟨w, hw⟩ : ∃ w, w = r * 1073741824 + yg v t := ⟨_, rfl⟩
    have hwy : w < 1073741824 * y := by
      have h9 : (r + 1) * 1073741824 ≤ y * 1073741824 := Nat.mul_le_mul_right _ hry
      omega
    have hwB : w < 2 ^ 62 := by
      have : 1073741824 * y ≤ 1073741824 * 1073741824 := Nat.mul_le_mul_left _ hy
      omega
    have eX : yh v t = y * (1073741824 * (yh v (t + 1) / y)) + w := by
      have := Nat.div_add_mod (yh v (t + 1)) y
      rw [← hr] at this
      have e9 : y * (1073741824 * (yh v (t + 1) / y)) = 1073741824 * (y * (yh v (t + 1) / y)) := by
        rw [← Nat.mul_assoc, ← Nat.mul_assoc, Nat.mul_comm y 1073741824]
      omega
    have hd1 : w / y < 1073741824 := (Nat.div_lt_iff_lt_mul hy0).mpr hwy
    have hq : yh v t / y = 1073741824 * (yh v (t + 1) / y) + w / y := by rw [eX, Nat.mul_add_div hy0]
    have hrm : yh v t % y = w % y := by rw [eX, Nat.mul_add_mod]
    have hwm : w % y < y := Nat.mod_lt _ hy0
    refine sX5_divideSmall_21 rfl ?_
    refine nX5_divideSmall_22 ?_
    refine sX5_divideSmall_24 ?_
    rw [lN_shl30]
    refine sX5_divideSmall_25 rfl ?_
    refine jX5_divideSmall_26 (by assumption) (by assumption) ?_
    refine sX5_divideSmall_29 rfl ?_
    refine jX5_divideSmall_31 (by assumption) (by omega) (by omega) ?_
    rw [YPd_own hP (by omega)]
    refine sX5_divideSmall_32 ?_
    refine sX5_divideSmall_33 ?_
    rw [nI_l (by omega), lN_add, ← hw]
    have hyne : ¬ lN y = 0 := by
      rw [show (0 : Int64) = lN 0 from rfl, pk_lEQ (by omega) (by decide)]; omega
    refine sX5_divideSmall_34 ?_
    refine sX5_divideSmall_36 rfl ?_
    refine jX5_divideSmall_37 (by assumption) (by assumption) ?_
    refine sX5_divideSmall_40 rfl ?_
    refine sX5_divideSmall_42 rfl ?_
    refine sX5_divideSmall_44 rfl ?_
    refine sX5_divideSmall_45 ?_
    rw [nI_l (by omega)]
    refine sX5_divideSmall_46 hyne ?_
    rw [pk_lDiv (by omega) hy0 (by omega)]
    refine sX5_divideSmall_47 ?_
    rw [lN_i]
    refine jX5_divideSmall_48 (by assumption) (by omega) (by omega) ?_
    refine sX5_divideSmall_49 rfl ?_
    refine sX5_divideSmall_51 rfl ?_
    refine sX5_divideSmall_52 ?_
    rw [nI_l (by omega)]
    refine sX5_divideSmall_53 hyne ?_
    rw [pk_lRem (by omega) hy0 (by omega)]
    refine sX5_divideSmall_54 ?_
    refine sX5_divideSmall_55 rfl ?_
    refine sX5_divideSmall_58 ?_
    rw [nI_m1]
    refine ih _ _ (by omega) (yo_tr hyo yo_l) (by rw [xup2_r (by omega)]; exact hsz) (YPd_go hP ?_) (fun q hq => by
        simp only [List.mem_cons, List.not_mem_nil, or_false] at hq
        rw [hrm] at hq
        rcases hq with rfl | rfl | rfl | rfl <;> exact xlk_mem rfl)
    unfold yg
    rw [yh_div, hq]
    generalize w / y = z at hd1 ⊢
    generalize yh v (t + 1) / y = u
    omega
end Nat2
