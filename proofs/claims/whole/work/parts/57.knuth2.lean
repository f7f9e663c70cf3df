theorem cmp_gt {a b : Nat} (ha : a < 2 ^ 63) (hb : b < 2 ^ 63) : 0 < lg_cmp (lN a) (lN b) ↔ b < a := by
  unfold lg_cmp
  by_cases h1 : b < a
  · rw [if_pos ((pk_lLT hb ha).mpr h1)]; exact ⟨fun _ => h1, fun _ => by decide⟩
  · rw [if_neg (fun q => h1 ((pk_lLT hb ha).mp q))]
    constructor
    · intro q
      by_cases h2 : lN a = lN b
      · rw [if_pos h2] at q; exact absurd q (by decide)
      · rw [if_neg h2] at q; exact absurd q (by decide)
    · intro q; exact absurd q h1
theorem cmp_ge0 {z : Int} (h1 : -4611686018427387904 ≤ z) (h2 : z < 4611686018427387904) : 0 ≤ lg_cmp (lZ z) 0 ↔ 0 ≤ z := by
  unfold lg_cmp
  have hn := lZ_neg h1 h2
  by_cases h3 : (0 : Int64) < lZ z
  · rw [if_pos h3]
    refine ⟨fun _ => ?_, fun _ => by decide⟩
    have : ¬ lZ z < 0 := fun q => absurd (Int64.lt_trans q h3) (Int64.lt_irrefl)
    rw [hn] at this; omega
  · rw [if_neg h3]
    by_cases h4 : lZ z = 0
    · rw [if_pos h4]
      refine ⟨fun _ => ?_, fun _ => by decide⟩
      have : ¬ lZ z < 0 := by rw [h4]; decide
      rw [hn] at this; omega
    · rw [if_neg h4]
      refine ⟨fun q => absurd q (by decide), fun q => ?_⟩
      exfalso
      have h5 : ¬ lZ z < 0 := fun r => by rw [hn] at r; omega
      have h6 : (0 : Int64) ≤ lZ z := Int64.not_lt.mp h5
      rcases Int64.le_iff_lt_or_eq.mp h6 with r | r
      · exact h3 r
      · exact h4 r.symm
section Knuth2
variable {g : xG} {l : Launch} {h : xH} {J : Nat → Nat → Int32} {Q : Option Value → xH → Prop}
theorem c_takeOff {e j n W V : Nat} (hB : CB h e) (hjn : j + n < 129) (hn : 2 ≤ n) (hW : ∀ i, i ≤ n → J (e + 11) (j + i) = nI (yg W i)) (hV : ∀ i, i < n → J (e + 12) i = nI (yg V i)) (hVB : V < yB n) (hhi : 536870912 ≤ yg V (n - 1)) (hWV : W < V * 1073741824) (k : ∀ J', (∀ r, r ≠ e + 11 → J' r = J r) → (∀ i, i < j ∨ j + n < i → J' (e + 11) i = J (e + 11) i) → (∀ i, i ≤ n → J' (e + 11) (j + i) = nI (yg (W % V) i)) → Q (some (.int (nI (W / V)))) (xJ h J')) : ac g l mX0_takeOff [.ref e, .int (nI j), .int (nI n)] (xJ h J) Q := by
  refine ac_of (by decide) (Nat.le_of_ble_eq_true rfl) ?_
  have hB0 := hB
  obtain ⟨t1, ⟨p1, p2, p4, p5, p6, p7, p8⟩, -, t11, t12⟩ := hB
  -- the digits
  obtain ⟨hi, ehi⟩ : ∃ hi, hi = yg V (n - 1) := ⟨_, rfl⟩
  obtain ⟨v2, ev2⟩ : ∃ v2, v2 = yg V (n - 2) := ⟨_, rfl⟩
  obtain ⟨w2, ew2⟩ : ∃ w2, w2 = yg W (n - 2) := ⟨_, rfl⟩
  obtain ⟨pr, epr⟩ : ∃ pr, pr = yh W (n - 1) := ⟨_, rfl⟩
  have g1 := yg_lt V (n - 1)
  have g2 := yg_lt V (n - 2)
  have g3 := yg_lt W (n - 2)
  have g4 := yg_lt W (n - 1)
  have g5 := yg_lt W n
  rw [← ehi] at g1 hhi
  rw [← ev2] at g2
  rw [← ew2] at g3
  have hV1 : yh V (n - 1) = hi := by
    have := yh_eq V (n - 1)
    rw [show n - 1 + 1 = n by omega, yh_small hVB, ← ehi] at this
    omega
  have hVt : yh V (n - 2) = hi * 1073741824 + v2 := by
    have := yh_eq V (n - 2)
    rw [show n - 2 + 1 = n - 1 by omega, hV1, ← ev2] at this
    omega
  have hWt : yh W (n - 2) = pr * 1073741824 + w2 := by
    have := yh_eq W (n - 2)
    rw [show n - 2 + 1 = n - 1 by omega, ← epr, ← ew2] at this
    omega
  have hV0 : 0 < V := by
    rcases Nat.eq_zero_or_pos V with r | r
    · rw [r, yh_z] at hV1; omega
    · exact r
  have sand : ∀ x i, yh x i * yB i ≤ x ∧ x < (yh x i + 1) * yB i := fun x i =>
    ⟨Nat.div_mul_le_self _ _, by have := Nat.lt_div_mul_add (a := x) (yB_pos i); rw [Nat.add_mul, Nat.one_mul]; exact this⟩
  have sV1 := sand V (n - 1)
  have sV2 := sand V (n - 2)
  have sW1 := sand W (n - 1)
  have sW2 := sand W (n - 2)
  rw [hV1] at sV1
  rw [← epr] at sW1
  rw [hVt] at sV2
  rw [hWt] at sW2
  have hWn : yh W n ≤ hi := by
    have a1 : W < (hi + 1) * yB (n - 1) * 1073741824 := Nat.lt_of_lt_of_le hWV (Nat.mul_le_mul_right _ (Nat.le_of_lt sV1.2))
    rw [Nat.mul_assoc, ← yB_s, show n - 1 + 1 = n by omega] at a1
    have : yh W n < hi + 1 := (Nat.div_lt_iff_lt_mul (yB_pos n)).mpr a1
    omega
  have hWB : W < yB (n + 1) := yh_lt (by rw [yh_s]; omega)
  have hWg : yh W n = yg W n := by
    have := yh_eq W n
    rw [yh_small hWB] at this; omega
  have hpr : pr = yg W n * 1073741824 + yg W (n - 1) := by
    have := yh_eq W (n - 1)
    rw [show n - 1 + 1 = n by omega, ← epr, hWg] at this
    omega
  obtain ⟨q, hq⟩ : ∃ q, q = W / V := ⟨_, rfl⟩
  have q1 : q * V ≤ W := by rw [hq]; exact Nat.div_mul_le_self _ _
  have q2 : W < (q + 1) * V := by
    have := Nat.lt_div_mul_add (a := W) hV0
    rw [← hq] at this
    rw [Nat.add_mul, Nat.one_mul]; exact this
  have q3 : q < 1073741824 := by
    rw [hq]
    exact (Nat.div_lt_iff_lt_mul hV0).mpr (by rw [Nat.mul_comm]; exact hWV)
  have qhi : q * hi ≤ pr := est_lo q1 sW1.2 sV1.1
  have qVt : q * (hi * 1073741824 + v2) ≤ pr * 1073741824 + w2 := est_lo q1 sW2.2 sV2.1
  have hprB : pr < hi * 1073741824 + 1073741824 := by rw [hpr, ← hWg]; have := Nat.mul_le_mul_right 1073741824 hWn; omega
  have gmax : ∀ x, x * hi ≤ pr → x ≤ 1073741825 := by
    intro x hx
    rcases Nat.lt_or_ge 1073741825 x with r | r
    · have a1 : 1073741826 * hi ≤ x * hi := Nat.mul_le_mul_right _ r
      omega
    · exact r
  rw [← hq] at k
  -- behind the guess
  have l137 : ∀ gs lv0, q ≤ gs → gs ≤ q + 1 → gs ≤ 1073741824 → (∀ z ∈ ([(0, .ref e), (1, .int (nI j)), (2, .int (nI n)), (7, .long (lN gs))] : List (Nat × Value)), z ∈ lv0) → aw g l mX0_takeOff 137 lv0 [] (xJ h J) Q := by
    intro gs lv0 hg1 hg2 hg3 hlv
    refine aw_lv hlv ?_
    refine sX0_takeOff_137 rfl ?_
    refine sX0_takeOff_138 rfl ?_
    refine sX0_takeOff_140 rfl ?_
    refine sX0_takeOff_141 rfl ?_
    refine jX0_takeOff_142 (Nat.le_of_ble_eq_true rfl) t1 ?_
    refine c_subtractTimes hB0 hjn hg3 hW hV hWB hVB (fun J1 ho ho2 hP => ?_)
    by_cases hE : gs = q
    · subst hE
      have hD : (W : Int) - (gs * V : Nat) = ((W % V : Nat) : Int) := by
        have := Nat.div_add_mod W V
        rw [← hq, Nat.mul_comm] at this
        omega
      rw [hD] at hP ⊢
      have hmB : W % V < yB n := Nat.lt_trans (Nat.mod_lt _ hV0) hVB
      have hz : dz ((W % V : Nat) : Int) (n + 1) = 0 := by
        rw [dz_nat, yh_s, yh_small hmB]; rfl
      rw [hz]
      refine sX0_takeOff_145 ?_
      refine sX0_takeOff_146 ?_
      refine sX0_takeOff_147 (fun _ => ?_) (fun hc => absurd ((cmp_ge0 (by decide) (by decide)).mpr (Int.le_refl 0)) hc)
      refine sX0_takeOff_162 rfl ?_
      refine sX0_takeOff_164 ?_
      rw [lN_i]
      refine sX0_takeOff_165 (k J1 ho ho2 (fun i hi9 => ?_))
      rw [hP i hi9, dz_nat]
      congr 1
    · obtain rfl : gs = q + 1 := by omega
      have hlt : W < (q + 1) * V := q2
      obtain ⟨X, hX⟩ : ∃ X, X = W + yB (n + 1) - (q + 1) * V := ⟨_, rfl⟩
      have hle : (q + 1) * V ≤ W + V := by rw [Nat.add_mul, Nat.one_mul]; omega
      have hVn : V < yB (n + 1) := Nat.lt_of_lt_of_le hVB (yB_le (by omega))
      have hD : (W : Int) - ((q + 1) * V : Nat) = (X : Int) - (yB (n + 1) : Int) := by omega
      rw [hD] at hP ⊢
      have hXB : X < yB (n + 1) := by omega
      have hz : dz ((X : Int) - (yB (n + 1) : Int)) (n + 1) = -1 := by
        rw [dz_neg (n + 1) (Nat.le_refl _), yh_small hXB, Nat.sub_self]; rfl
      rw [hz]
      refine sX0_takeOff_145 ?_
      refine sX0_takeOff_146 ?_
      refine sX0_takeOff_147 (fun hc => absurd ((cmp_ge0 (by decide) (by decide)).mp hc) (by decide)) (fun _ => ?_)
      have hP2 : ∀ i, i ≤ n → J1 (e + 11) (j + i) = nI (yg X i) := by
        intro i hi9
        rw [hP i hi9, dz_neg i (by omega)]
        congr 1
        rw [show n + 1 - i = n - i + 1 by omega, yB_s]
        have : ((yB (n - i) * 1073741824 : Nat) : Int) = (yB (n - i) : Int) * 1073741824 := by rw [Int.natCast_mul]; rfl
        rw [this]
        unfold yg
        generalize (yB (n - i) : Int) = u
        generalize yh X i = u2
        omega
      refine sX0_takeOff_150 rfl ?_
      refine sX0_takeOff_152 ?_
      refine sX0_takeOff_153 ?_
      rw [show (1 : Int64) = lN 1 from rfl, lN_sub (by omega), Nat.add_sub_cancel]
      refine sX0_takeOff_154 ?_
      refine sX0_takeOff_156 rfl ?_
      refine sX0_takeOff_157 rfl ?_
      refine sX0_takeOff_158 rfl ?_
      refine jX0_takeOff_159 (Nat.le_of_ble_eq_true rfl) t1 ?_
      refine c_addBack (X := X) (V := V) hB0 hjn hP2 (fun i hi9 => by rw [ho _ (by omega)]; exact hV i hi9) hVB (fun J2 ho3 ho4 hP3 => ?_)
      refine sX0_takeOff_162 rfl ?_
      refine sX0_takeOff_164 ?_
      rw [lN_i]
      refine sX0_takeOff_165 (k J2 (fun r hr => (ho3 r hr).trans (ho r hr)) (fun i hi9 => (ho4 i hi9).trans (ho2 i hi9)) (fun i hi9 => ?_))
      rw [hP3 i hi9]
      congr 1
      have eXV : X + V = W % V + yB (n + 1) * 1 := by
        have := Nat.div_add_mod W V
        rw [← hq, Nat.mul_comm] at this
        have h9 : (q + 1) * V = q * V + V := by rw [Nat.add_mul, Nat.one_mul]
        omega
      rw [eXV, yg_low (by omega)]
  have est1 : ∀ gs rs, gs * hi + rs = pr → gs ≤ 1073741825 → gs * v2 ≤ rs * 1073741824 + w2 → gs ≤ q + 1 := by
    intro gs rs h1 h2 h3
    have a1 : gs * (hi * 1073741824 + v2) ≤ pr * 1073741824 + w2 := by
      rw [Nat.mul_add, ← Nat.mul_assoc, ← h1, Nat.add_mul]
      omega
    have a2 : 536870912 * 1073741824 ≤ hi * 1073741824 := Nat.mul_le_mul_right _ hhi
    exact est_hi (k := 1) (yB_pos (n - 2)) q2 sV2.2 a1 sW2.1 (by omega) (by decide)
  refine sX0_takeOff_0 rfl ?_
  refine jX0_takeOff_1 (by assumption) (by assumption) ?_
  refine sX0_takeOff_4 rfl ?_
  refine nX0_takeOff_5 ?_
  refine nX0_takeOff_6 (by omega) ?_
  refine jX0_takeOff_7 (by assumption) (by omega) (by omega) ?_
  rw [hV (n - 1) (by omega), ← ehi]
  refine sX0_takeOff_8 ?_
  refine sX0_takeOff_9 ?_
  refine sX0_takeOff_10 rfl ?_
  refine sX0_takeOff_11 ?_
  refine sX0_takeOff_12 ?_
  rw [nI_l (by omega)]
  refine sX0_takeOff_13 (fun _ => ?_) (fun hc => ?_)
  rotate_left
  · exfalso
    have := (cmp_gt (a := hi) (b := 0) (by omega) (by decide)).mpr (by omega)
    rw [show lN 0 = 0 from rfl, hc] at this
    exact absurd this (by decide)
  refine sX0_takeOff_18 rfl ?_
  refine jX0_takeOff_19 (by assumption) (by assumption) ?_
  refine sX0_takeOff_22 rfl ?_
  refine sX0_takeOff_23 rfl ?_
  refine nX0_takeOff_24 ?_
  refine jX0_takeOff_25 (by assumption) (by omega) (by omega) ?_
  rw [hW n (Nat.le_refl _)]
  refine sX0_takeOff_26 ?_
  refine nX0_takeOff_27 ?_
  refine sX0_takeOff_29 ?_
  rw [nI_l (by omega), lN_shl30]
  refine sX0_takeOff_30 rfl ?_
  refine jX0_takeOff_31 (by assumption) (by assumption) ?_
  refine sX0_takeOff_34 rfl ?_
  refine sX0_takeOff_35 rfl ?_
  refine nX0_takeOff_36 ?_
  refine nX0_takeOff_37 ?_
  refine nX0_takeOff_38 (by omega) ?_
  rw [show j + n - 1 = j + (n - 1) by omega]
  refine jX0_takeOff_39 (by assumption) (by omega) (by omega) ?_
  rw [hW (n - 1) (by omega)]
  refine sX0_takeOff_40 ?_
  refine sX0_takeOff_41 ?_
  rw [nI_l (by omega), lN_add, ← hpr]
  have hine : ¬ lN hi = 0 := by
    rw [show (0 : Int64) = lN 0 from rfl, pk_lEQ (by omega) (by decide)]; omega
  have hpr63 : pr < 2 ^ 62 := by omega
  refine sX0_takeOff_42 ?_
  refine sX0_takeOff_44 rfl ?_
  refine sX0_takeOff_46 rfl ?_
  refine sX0_takeOff_47 hine ?_
  rw [pk_lDiv (by omega) (by omega) (by omega)]
  refine sX0_takeOff_48 ?_
  refine sX0_takeOff_50 rfl ?_
  refine sX0_takeOff_52 rfl ?_
  refine sX0_takeOff_53 hine ?_
  rw [pk_lRem (by omega) (by omega) (by omega)]
  refine sX0_takeOff_54 ?_
  refine nX0_takeOff_56 ?_
  refine sX0_takeOff_57 ?_
  have hdm := Nat.div_add_mod pr hi
  rw [Nat.mul_comm] at hdm
  have hmod := Nat.mod_lt pr (show 0 < hi by omega)
  obtain ⟨g0, hg0⟩ : ∃ g0, g0 = pr / hi := ⟨_, rfl⟩
  rw [← hg0] at hdm ⊢
  have g0q : q ≤ g0 := by rw [hg0]; exact (Nat.le_div_iff_mul_le (by omega)).mpr qhi
  have g0m : g0 ≤ 1073741825 := gmax g0 (by omega)
  have g0e : g0 ≤ q + 2 := est_hi (k := 2) (yB_pos (n - 1)) q2 sV1.2 (show g0 * hi ≤ pr by omega) sW1.1 (by omega) (by decide)
  suffices H : ∀ t i gs rs lv0, i + t = 2 → gs + i = g0 → gs * hi + rs = pr → q ≤ gs → (∀ z ∈ ([(0, .ref e), (1, .int (nI j)), (2, .int (nI n)), (3, .long (lN hi)), (7, .long (lN gs)), (9, .long (lN rs)), (11, .int (nI i))] : List (Nat × Value)), z ∈ lv0) → aw g l mX0_takeOff 59 lv0 [] (xJ h J) Q from H 2 0 g0 (pr % hi) _ (by omega) (by omega) hdm g0q (fun z hz => by
      simp only [List.mem_cons, List.not_mem_nil, or_false] at hz
      rcases hz with rfl | rfl | rfl | rfl | rfl | rfl | rfl <;> exact xlk_mem rfl)
  have out : ∀ gs rs i, q ≤ gs → gs ≤ q + 1 → aw g l mX0_takeOff 137 [(0, .ref e), (1, .int (nI j)), (2, .int (nI n)), (3, .long (lN hi)), (7, .long (lN gs)), (9, .long (lN rs)), (11, .int (nI i))] [] (xJ h J) Q := by
    intro gs rs i h1 h2
    exact l137 gs _ h1 h2 (by omega) (fun z hz => by
      simp only [List.mem_cons, List.not_mem_nil, or_false] at hz
      rcases hz with rfl | rfl | rfl | rfl <;> exact xlk_mem rfl)
  intro t
  induction t with
  | zero =>
    intro i gs rs lv0 hi9 hgi hsum hqg hlv
    refine aw_lv hlv ?_
    obtain rfl : i = 2 := by omega
    refine sX0_takeOff_59 rfl ?_
    refine nX0_takeOff_61 ?_
    refine nX0_takeOff_62 (by omega) (by omega) (fun _ => ?_) (fun hc => absurd hc (by omega))
    exact out gs rs 2 hqg (by omega)
  | succ t ih =>
    intro i gs rs lv0 hi9 hgi hsum hqg hlv
    refine aw_lv hlv ?_
    have hgm : gs ≤ 1073741825 := by omega
    have hgv : gs * v2 ≤ 1073741825 * 1073741823 := Nat.mul_le_mul hgm (by omega)
    refine sX0_takeOff_59 rfl ?_
    refine nX0_takeOff_61 ?_
    refine nX0_takeOff_62 (by omega) (by omega) (fun hc => absurd hc (by omega)) (fun _ => ?_)
    have dec : q < gs → aw g l mX0_takeOff 119 [(0, .ref e), (1, .int (nI j)), (2, .int (nI n)), (3, .long (lN hi)), (7, .long (lN gs)), (9, .long (lN rs)), (11, .int (nI i))] [] (xJ h J) Q := by
      intro hlt
      refine sX0_takeOff_119 rfl ?_
      refine sX0_takeOff_121 ?_
      refine sX0_takeOff_122 ?_
      rw [show (1 : Int64) = lN 1 from rfl, lN_sub (by omega)]
      refine sX0_takeOff_123 ?_
      refine sX0_takeOff_125 rfl ?_
      refine sX0_takeOff_127 rfl ?_
      refine sX0_takeOff_128 ?_
      rw [lN_add]
      refine sX0_takeOff_129 ?_
      refine nX0_takeOff_131 rfl ?_
      refine sX0_takeOff_134 ?_
      refine ih (i + 1) (gs - 1) (rs + hi) _ (by omega) (by omega) ?_ (by omega) (fun z hz => by
        simp only [List.mem_cons, List.not_mem_nil, or_false] at hz
        rcases hz with rfl | rfl | rfl | rfl | rfl | rfl | rfl <;> exact xlk_mem rfl)
      obtain ⟨d, rfl⟩ : ∃ d, gs = d + 1 := ⟨gs - 1, by omega⟩
      rw [Nat.add_sub_cancel, ← hsum, Nat.add_mul, Nat.one_mul]
      omega
    refine sX0_takeOff_65 rfl ?_
    refine sX0_takeOff_67 ?_
    refine sX0_takeOff_70 ?_
    rw [show (1073741823 : Int64) = lN 1073741823 from rfl]
    refine sX0_takeOff_71 (fun hc => ?_) (fun hc => ?_)
    · rw [cmp_gt (by omega) (by decide)] at hc
      exact out gs rs i hqg (est1 gs rs hsum hgm (by omega))
    rw [cmp_gt (by omega) (by decide)] at hc
    have hrs : rs ≤ 1073741823 := by omega
    refine sX0_takeOff_74 rfl ?_
    refine sX0_takeOff_76 ?_
    refine sX0_takeOff_79 ?_
    rw [show (1073741823 : Int64) = lN 1073741823 from rfl]
    refine sX0_takeOff_80 (fun hc2 => ?_) (fun hc2 => ?_)
    · rw [cmp_gt (by omega) (by decide)] at hc2
      exact dec (by omega)
    rw [cmp_gt (by omega) (by decide)] at hc2
    refine sX0_takeOff_83 rfl ?_
    refine sX0_takeOff_85 rfl ?_
    refine jX0_takeOff_86 (by assumption) (by assumption) ?_
    refine sX0_takeOff_89 rfl ?_
    refine nX0_takeOff_90 ?_
    refine nX0_takeOff_91 (by omega) ?_
    refine jX0_takeOff_92 (by assumption) (by omega) (by omega) ?_
    rw [hV (n - 2) (by omega), ← ev2]
    refine sX0_takeOff_93 ?_
    rw [nI_l (by omega)]
    refine sX0_takeOff_94 ?_
    rw [lN_mul]
    refine sX0_takeOff_95 rfl ?_
    refine nX0_takeOff_97 ?_
    refine sX0_takeOff_99 ?_
    rw [lN_shl30]
    refine sX0_takeOff_100 rfl ?_
    refine jX0_takeOff_101 (by assumption) (by assumption) ?_
    refine sX0_takeOff_104 rfl ?_
    refine sX0_takeOff_105 rfl ?_
    refine nX0_takeOff_106 ?_
    refine nX0_takeOff_107 ?_
    refine nX0_takeOff_108 (by omega) ?_
    rw [show j + n - 2 = j + (n - 2) by omega]
    refine jX0_takeOff_109 (by assumption) (by omega) (by omega) ?_
    rw [hW (n - 2) (by omega), ← ew2]
    refine sX0_takeOff_110 ?_
    rw [nI_l (by omega)]
    refine sX0_takeOff_111 ?_
    refine sX0_takeOff_112 ?_
    rw [lN_add]
    refine sX0_takeOff_113 (fun hc3 => ?_) (fun hc3 => ?_)
    · rw [cmp_gt (by omega) (by omega)] at hc3
      refine dec ?_
      rcases Nat.lt_or_ge q gs with r | r
      · exact r
      · exfalso
        have a1 : gs * (hi * 1073741824 + v2) ≤ q * (hi * 1073741824 + v2) := Nat.mul_le_mul_right _ r
        have a2 : gs * (hi * 1073741824 + v2) = gs * hi * 1073741824 + gs * v2 := by rw [Nat.mul_add, Nat.mul_assoc]
        have a3 : pr * 1073741824 = gs * hi * 1073741824 + rs * 1073741824 := by rw [← hsum, Nat.add_mul]
        omega
    · rw [cmp_gt (by omega) (by omega)] at hc3
      refine sX0_takeOff_116 ?_
      exact out gs rs i hqg (est1 gs rs hsum hgm (by omega))
end Knuth2
