/-! ===== the reference's tokens ===== -/
theorem RT_c {K K' : Nat → Nat → Int32} {C : Nat → Nat} {m d n lo : Nat} (e20 : K' 0 20 = K 0 20) (e21 : K' 0 21 = K 0 21) (e4 : K' 4 = K 4) (e11 : K' 11 = K 11) (hT : RT K C m d n lo) : RT K' C m d n lo := by
  unfold RT at hT ⊢
  rw [e20, e21, e4, e11]
  exact hT
def RLx (K : Nat → Nat → Int32) (C : Nat → Nat) (m d lo a : Nat) : Prop := lo + d ≤ a ∧ a ≤ m ∧ K 0 23 = nI (a - d) ∧ K 0 24 = nI (tkT C m a - d) ∧ K 0 22 = nI (if tkK C m a ≤ 3 then tkK C m a else 4)
/-- only the token's fields changed -/
def ro (K K' : Nat → Nat → Int32) : Prop := (∀ r, r ≠ 0 → K' r = K r) ∧ ∀ j, j ≠ 22 → j ≠ 23 → j ≠ 24 → K' 0 j = K 0 j
theorem RT_ro {K K' : Nat → Nat → Int32} {C : Nat → Nat} {m d n lo : Nat} (o : ro K K') (hT : RT K C m d n lo) : RT K' C m d n lo :=
  RT_c (o.2 20 (by decide) (by decide) (by decide)) (o.2 21 (by decide) (by decide) (by decide)) (o.1 4 (by decide)) (o.1 11 (by decide)) hT
theorem ro_t {K K1 K2 : Nat → Nat → Int32} (a : ro K K1) (c : ro K1 K2) : ro K K2 := ⟨fun r hr => (c.1 r hr).trans (a.1 r hr), fun j h1 h2 h3 => (c.2 j h1 h2 h3).trans (a.2 j h1 h2 h3)⟩
theorem ro_r (K : Nat → Nat → Int32) : ro K K := ⟨fun _ _ => rfl, fun _ _ _ _ => rfl⟩
section Lex2
variable {g : xG} {l : Launch} {h : xH} {b : Nat} {K : Nat → Nat → Int32} {Q : Option Value → xH → Prop} {m d n lo : Nat} {C : Nat → Nat}
theorem c_number11 {p : Nat} (hS : RS h b) (hT : RT K C m d n lo) (hp : p ≤ n) (hlo : lo ≤ p) (k : Q (some (.int (nI (nu3 C m (p + d) - d)))) (xB h b (xup2 K 0 22 (nI (nuK C m (p + d)))))) : ac g l mX11_number [.ref b, .int (nI p)] (xB h b K) Q := by
  refine ac_of (by decide) (Nat.le_of_ble_eq_true rfl) ?_
  have hC := hT.1
  have hm := hC.1
  have hn : n + d = m := hT.2.1
  generalize hA : p + d = a at k
  have ham : a ≤ m := by omega
  have n1 : nu1 C m a ≤ m := nu1_le ham
  have n1' := nu1_ge C m a
  have n2 : nu2 C m a ≤ m := nu2_le hC ham
  have n2' := nu2_ge C m a
  have n3 : nu3 C m a ≤ m := nu3_le hC ham
  have n3' := nu3_ge C m a
  have nQ := nuQ_ge C m a
  have pl : ∀ q, d ≤ q → q - d + d = q := fun q hq => by omega
  have fin : ∀ lv0 : List (Nat × Value), (∀ z ∈ ([(0, .ref b), (2, .int (nI (nu3 C m a - d))), (3, .int (nI (nuD C m a))), (4, .int (nI (nuX C m a)))] : List (Nat × Value)), z ∈ lv0) → aw g l mX11_number 153 lv0 [] (xB h b K) Q := by
    intro lv0 hlv
    refine aw_lv hlv ?_
    have hd : nuD C m a ≤ m := by unfold nuD; split <;> omega
    have hx : nuX C m a ≤ m := by unfold nuX; split <;> omega
    have long : nuK C m a = 1 → aw g l mX11_number 166 [(0, .ref b), (2, .int (nI (nu3 C m a - d))), (3, .int (nI (nuD C m a))), (4, .int (nI (nuX C m a)))] [.ref b] (xB h b K) Q := fun z => by
      rw [z] at k
      refine nX11_number_166 ?_
      refine sX11_number_167 ?_
      refine tX11_number_171 hS ?_
      refine sX11_number_174 rfl ?_
      exact sX11_number_175 k
    refine sX11_number_153 rfl ?_
    refine sX11_number_154 rfl ?_
    refine nX11_number_155 ?_
    refine nX11_number_157 (by omega) (by omega) (fun z => long (by unfold nuK; rw [if_pos (Or.inl z)])) (fun z1 => ?_)
    refine sX11_number_160 rfl ?_
    refine nX11_number_162 ?_
    refine nX11_number_163 (by omega) (by omega) (fun z => ?_) (fun z => long (by unfold nuK; rw [if_pos (Or.inr z)]))
    have z3 : nuK C m a = 3 := by unfold nuK; rw [if_neg (by omega)]
    rw [z3] at k
    refine nX11_number_170 ?_
    refine tX11_number_171 hS ?_
    refine sX11_number_174 rfl ?_
    exact sX11_number_175 k
  -- the exponent's digits
  have ex : nuE C m a = true → ∀ f q lv0, nuQ C m a ≤ q → q + f = m → rnd cD C m q = nu3 C m a → (∀ z ∈ ([(0, .ref b), (2, .int (nI (q - d))), (3, .int (nI (nuD C m a))), (4, .int (nI (q - nuQ C m a)))] : List (Nat × Value)), z ∈ lv0) → aw g l mX11_number 133 lv0 [] (xB h b K) Q := by
    intro hE f
    induction f with
    | zero =>
      intro q lv0 h1 h2 h3 hlv
      refine aw_lv hlv ?_
      refine sX11_number_133 rfl ?_
      refine sX11_number_134 rfl ?_
      refine tX11_number_135 hS (Nat.le_of_ble_eq_true rfl) ?_
      refine c_at hS hT (by omega) (by omega) ?_
      rw [pl q (by omega)]
      refine sX11_number_138 (Nat.le_of_ble_eq_true rfl) ?_
      refine c_isDigit11 (hC.2.2 _) (fun z => absurd (cD_lt hC z) (by omega)) (fun z => ?_)
      refine sX11_number_141 (fun _ => ?_) (fun w => absurd rfl w)
      have e3 : q = nu3 C m a := by rw [← h3, rnd_stop (Or.inl z)]
      have ex : q - nuQ C m a = nuX C m a := by unfold nuX; rw [if_pos hE, e3]
      refine fin _ ?_
      rw [← ex, ← e3]
      exact (fun z hz => by simp only [List.mem_cons, List.not_mem_nil, or_false] at hz; rcases hz with rfl | rfl | rfl | rfl <;> exact xlk_mem rfl)
    | succ f ih =>
      intro q lv0 h1 h2 h3 hlv
      refine aw_lv hlv ?_
      refine sX11_number_133 rfl ?_
      refine sX11_number_134 rfl ?_
      refine tX11_number_135 hS (Nat.le_of_ble_eq_true rfl) ?_
      refine c_at hS hT (by omega) (by omega) ?_
      rw [pl q (by omega)]
      refine sX11_number_138 (Nat.le_of_ble_eq_true rfl) ?_
      refine c_isDigit11 (hC.2.2 _) (fun z => ?_) (fun z => ?_)
      · refine sX11_number_141 (fun w => absurd w (by decide)) (fun _ => ?_)
        refine nX11_number_144 rfl ?_
        refine nX11_number_147 rfl ?_
        refine sX11_number_150 ?_
        refine ih (q + 1) _ (by omega) (by omega) ((rnd_step (q := q) (by omega) z).symm.trans h3) ?_
        rw [show q + 1 - d = q - d + 1 by omega, show q + 1 - nuQ C m a = q - nuQ C m a + 1 by omega]
        exact (fun z hz => by simp only [List.mem_cons, List.not_mem_nil, or_false] at hz; rcases hz with rfl | rfl | rfl | rfl <;> exact xlk_mem rfl)
      · refine sX11_number_141 (fun _ => ?_) (fun w => absurd rfl w)
        have e3 : q = nu3 C m a := by rw [← h3, rnd_stop (Or.inl z)]
        have ex : q - nuQ C m a = nuX C m a := by unfold nuX; rw [if_pos hE, e3]
        refine fin _ ?_
        rw [← ex, ← e3]
        exact (fun z hz => by simp only [List.mem_cons, List.not_mem_nil, or_false] at hz; rcases hz with rfl | rfl | rfl | rfl <;> exact xlk_mem rfl)
  have mid : ∀ lv0 : List (Nat × Value), (∀ z ∈ ([(0, .ref b), (2, .int (nI (nu2 C m a - d))), (3, .int (nI (nuD C m a))), (4, .int (nI 0))] : List (Nat × Value)), z ∈ lv0) → aw g l mX11_number 73 lv0 [] (xB h b K) Q := by
    intro lv0 hlv
    refine aw_lv hlv ?_
    have none' : nuE C m a = false → aw g l mX11_number 153 [(0, .ref b), (2, .int (nI (nu2 C m a - d))), (3, .int (nI (nuD C m a))), (4, .int (nI 0))] [] (xB h b K) Q := fun z => by
      have x0 : nuX C m a = 0 := by unfold nuX; rw [if_neg (by rw [z]; decide)]
      have x3 : nu3 C m a = nu2 C m a := by unfold nu3; rw [if_neg (by rw [z]; decide)]
      refine fin _ ?_
      rw [x0, x3]
      exact (fun z hz => by simp only [List.mem_cons, List.not_mem_nil, or_false] at hz; rcases hz with rfl | rfl | rfl | rfl <;> exact xlk_mem rfl)
    have have' : ∀ lv1 : List (Nat × Value), C (nu2 C m a) = 101 → (∀ z ∈ ([(0, .ref b), (2, .int (nI (nu2 C m a - d))), (3, .int (nI (nuD C m a))), (4, .int (nI 0)), (5, .int (nI (nuQ C m a - d)))] : List (Nat × Value)), z ∈ lv1) → aw g l mX11_number 118 lv1 [] (xB h b K) Q := by
      intro lv1 z hlv1
      refine aw_lv hlv1 ?_
      refine sX11_number_118 rfl ?_
      refine sX11_number_119 rfl ?_
      refine tX11_number_121 hS (Nat.le_of_ble_eq_true rfl) ?_
      refine c_at hS hT (by omega) (by omega) ?_
      rw [pl _ (by omega)]
      refine sX11_number_124 (Nat.le_of_ble_eq_true rfl) ?_
      refine c_isDigit11 (hC.2.2 _) (fun y => ?_) (fun y => ?_)
      · have yE : nuE C m a = true := nuE_iff.mpr ⟨z, y⟩
        have qm := cD_lt hC y
        refine sX11_number_127 (fun w => absurd w (by decide)) (fun _ => ?_)
        refine sX11_number_130 rfl ?_
        refine sX11_number_132 ?_
        refine ex yE (m - nuQ C m a) (nuQ C m a) _ (Nat.le_refl _) (by omega) (by unfold nu3; rw [if_pos yE]) ?_
        rw [Nat.sub_self]
        exact (fun z hz => by simp only [List.mem_cons, List.not_mem_nil, or_false] at hz; rcases hz with rfl | rfl | rfl | rfl <;> exact xlk_mem rfl)
      · refine sX11_number_127 (fun _ => ?_) (fun w => absurd rfl w)
        exact aw_lv (fun z hz => by simp only [List.mem_cons, List.not_mem_nil, or_false] at hz; rcases hz with rfl | rfl | rfl | rfl <;> exact xlk_mem rfl) (none' (bF nuE_iff (fun w => by rw [y] at w; exact absurd w.2 (by decide))))
    have c0 := hC.2.2 (nu2 C m a)
    have c1 := hC.2.2 (nu2 C m a + 1)
    refine sX11_number_73 rfl ?_
    refine sX11_number_74 rfl ?_
    refine tX11_number_75 hS (Nat.le_of_ble_eq_true rfl) ?_
    refine c_at hS hT (by omega) (by omega) ?_
    rw [pl _ (by omega)]
    refine nX11_number_78 ?_
    refine nX11_number_80 (by omega) (by omega) (fun z => ?_) (fun z => ?_)
    · exact aw_lv (fun z hz => by simp only [List.mem_cons, List.not_mem_nil, or_false] at hz; rcases hz with rfl | rfl | rfl | rfl <;> exact xlk_mem rfl) (none' (bF nuE_iff (fun w => z w.1)))
    have plus : (C (nu2 C m a + 1) = 43 ∨ C (nu2 C m a + 1) = 45) → aw g l mX11_number 107 [(0, .ref b), (2, .int (nI (nu2 C m a - d))), (3, .int (nI (nuD C m a))), (4, .int (nI 0))] [] (xB h b K) Q := fun y => by
      refine sX11_number_107 rfl ?_
      refine nX11_number_108 ?_
      refine nX11_number_109 ?_
      refine sX11_number_110 ?_
      refine sX11_number_116 ?_
      have : nuQ C m a = nu2 C m a + 2 := by unfold nuQ; rw [if_pos y]
      rw [show nu2 C m a - d + 2 = nuQ C m a - d by omega]
      exact have' _ z (fun z hz => by simp only [List.mem_cons, List.not_mem_nil, or_false] at hz; rcases hz with rfl | rfl | rfl | rfl | rfl <;> exact xlk_mem rfl)
    refine sX11_number_83 rfl ?_
    refine sX11_number_84 rfl ?_
    refine nX11_number_85 ?_
    refine nX11_number_86 ?_
    refine tX11_number_87 hS (Nat.le_of_ble_eq_true rfl) ?_
    refine c_at hS hT (by omega) (by omega) ?_
    rw [show nu2 C m a - d + 1 + d = nu2 C m a + 1 by omega]
    refine nX11_number_90 ?_
    refine nX11_number_92 (by omega) (by omega) (fun y => aw_lv (fun z hz => by simp only [List.mem_cons, List.not_mem_nil, or_false] at hz; rcases hz with rfl | rfl | rfl | rfl <;> exact xlk_mem rfl) (plus (Or.inl y))) (fun y1 => ?_)
    refine sX11_number_95 rfl ?_
    refine sX11_number_96 rfl ?_
    refine nX11_number_97 ?_
    refine nX11_number_98 ?_
    refine tX11_number_99 hS (Nat.le_of_ble_eq_true rfl) ?_
    refine c_at hS hT (by omega) (by omega) ?_
    rw [show nu2 C m a - d + 1 + d = nu2 C m a + 1 by omega]
    refine nX11_number_102 ?_
    refine nX11_number_104 (by omega) (by omega) (fun y2 => ?_) (fun y => aw_lv (fun z hz => by simp only [List.mem_cons, List.not_mem_nil, or_false] at hz; rcases hz with rfl | rfl | rfl | rfl <;> exact xlk_mem rfl) (plus (Or.inr y)))
    refine sX11_number_113 rfl ?_
    refine nX11_number_114 ?_
    refine nX11_number_115 ?_
    refine sX11_number_116 ?_
    have : nuQ C m a = nu2 C m a + 1 := by unfold nuQ; rw [if_neg (by omega)]
    rw [show nu2 C m a - d + 1 = nuQ C m a - d by omega]
    exact have' _ z (fun z hz => by simp only [List.mem_cons, List.not_mem_nil, or_false] at hz; rcases hz with rfl | rfl | rfl | rfl | rfl <;> exact xlk_mem rfl)
  -- digits behind the point
  have be : nuP C m a = true → ∀ f q lv0, nu1 C m a + 1 ≤ q → q + f = m → rnd cD C m q = nu2 C m a → (∀ z ∈ ([(0, .ref b), (2, .int (nI (q - d))), (3, .int (nI (nu1 C m a - a + (q - (nu1 C m a + 1))))), (4, .int (nI 0))] : List (Nat × Value)), z ∈ lv0) → aw g l mX11_number 53 lv0 [] (xB h b K) Q := by
    intro hP f
    induction f with
    | zero =>
      intro q lv0 h1 h2 h3 hlv
      refine aw_lv hlv ?_
      refine sX11_number_53 rfl ?_
      refine sX11_number_54 rfl ?_
      refine tX11_number_55 hS (Nat.le_of_ble_eq_true rfl) ?_
      refine c_at hS hT (by omega) (by omega) ?_
      rw [pl q (by omega)]
      refine sX11_number_58 (Nat.le_of_ble_eq_true rfl) ?_
      refine c_isDigit11 (hC.2.2 _) (fun z => absurd (cD_lt hC z) (by omega)) (fun z => ?_)
      refine sX11_number_61 (fun _ => ?_) (fun w => absurd rfl w)
      have e3 : q = nu2 C m a := by rw [← h3, rnd_stop (Or.inl z)]
      have ex : nu1 C m a - a + (q - (nu1 C m a + 1)) = nuD C m a := by unfold nuD; rw [if_pos hP, e3]
      refine mid _ ?_
      rw [← ex, ← e3]
      exact (fun z hz => by simp only [List.mem_cons, List.not_mem_nil, or_false] at hz; rcases hz with rfl | rfl | rfl | rfl <;> exact xlk_mem rfl)
    | succ f ih =>
      intro q lv0 h1 h2 h3 hlv
      refine aw_lv hlv ?_
      refine sX11_number_53 rfl ?_
      refine sX11_number_54 rfl ?_
      refine tX11_number_55 hS (Nat.le_of_ble_eq_true rfl) ?_
      refine c_at hS hT (by omega) (by omega) ?_
      rw [pl q (by omega)]
      refine sX11_number_58 (Nat.le_of_ble_eq_true rfl) ?_
      refine c_isDigit11 (hC.2.2 _) (fun z => ?_) (fun z => ?_)
      · refine sX11_number_61 (fun w => absurd w (by decide)) (fun _ => ?_)
        refine nX11_number_64 rfl ?_
        refine nX11_number_67 rfl ?_
        refine sX11_number_70 ?_
        refine ih (q + 1) _ (by omega) (by omega) ((rnd_step (q := q) (by omega) z).symm.trans h3) ?_
        rw [show q + 1 - d = q - d + 1 by omega, show nu1 C m a - a + (q + 1 - (nu1 C m a + 1)) = nu1 C m a - a + (q - (nu1 C m a + 1)) + 1 by omega]
        exact (fun z hz => by simp only [List.mem_cons, List.not_mem_nil, or_false] at hz; rcases hz with rfl | rfl | rfl | rfl <;> exact xlk_mem rfl)
      · refine sX11_number_61 (fun _ => ?_) (fun w => absurd rfl w)
        have e3 : q = nu2 C m a := by rw [← h3, rnd_stop (Or.inl z)]
        have ex : nu1 C m a - a + (q - (nu1 C m a + 1)) = nuD C m a := by unfold nuD; rw [if_pos hP, e3]
        refine mid _ ?_
        rw [← ex, ← e3]
        exact (fun z hz => by simp only [List.mem_cons, List.not_mem_nil, or_false] at hz; rcases hz with rfl | rfl | rfl | rfl <;> exact xlk_mem rfl)
  have fst : ∀ lv0 : List (Nat × Value), (∀ z ∈ ([(0, .ref b), (2, .int (nI (nu1 C m a - d))), (3, .int (nI (nu1 C m a - a))), (4, .int (nI 0))] : List (Nat × Value)), z ∈ lv0) → aw g l mX11_number 27 lv0 [] (xB h b K) Q := by
    intro lv0 hlv
    refine aw_lv hlv ?_
    have no : nuP C m a = false → aw g l mX11_number 73 [(0, .ref b), (2, .int (nI (nu1 C m a - d))), (3, .int (nI (nu1 C m a - a))), (4, .int (nI 0))] [] (xB h b K) Q := fun z => by
      have x0 : nuD C m a = nu1 C m a - a := by unfold nuD; rw [if_neg (by rw [z]; decide)]
      have x3 : nu2 C m a = nu1 C m a := by unfold nu2; rw [if_neg (by rw [z]; decide)]
      refine mid _ ?_
      rw [x0, x3]
      exact (fun z hz => by simp only [List.mem_cons, List.not_mem_nil, or_false] at hz; rcases hz with rfl | rfl | rfl | rfl <;> exact xlk_mem rfl)
    have c0 := hC.2.2 (nu1 C m a)
    have c1 := hC.2.2 (nu1 C m a + 1)
    refine sX11_number_27 rfl ?_
    refine sX11_number_28 rfl ?_
    refine tX11_number_29 hS (Nat.le_of_ble_eq_true rfl) ?_
    refine c_at hS hT (by omega) (by omega) ?_
    rw [pl _ (by omega)]
    refine nX11_number_32 ?_
    refine nX11_number_34 (by omega) (by omega) (fun z => aw_lv (fun z hz => by simp only [List.mem_cons, List.not_mem_nil, or_false] at hz; rcases hz with rfl | rfl | rfl | rfl <;> exact xlk_mem rfl) (no (bF nuP_iff (fun w => z w.1)))) (fun z => ?_)
    refine sX11_number_37 rfl ?_
    refine sX11_number_38 rfl ?_
    refine nX11_number_39 ?_
    refine nX11_number_40 ?_
    refine tX11_number_41 hS (Nat.le_of_ble_eq_true rfl) ?_
    refine c_at hS hT (by omega) (by omega) ?_
    rw [show nu1 C m a - d + 1 + d = nu1 C m a + 1 by omega]
    refine sX11_number_44 (Nat.le_of_ble_eq_true rfl) ?_
    refine c_isDigit11 (hC.2.2 _) (fun y => ?_) (fun y => ?_)
    · have yP : nuP C m a = true := nuP_iff.mpr ⟨z, y⟩
      have qm := cD_lt hC y
      refine sX11_number_47 (fun w => absurd w (by decide)) (fun _ => ?_)
      refine nX11_number_50 rfl ?_
      refine be yP (m - (nu1 C m a + 1)) (nu1 C m a + 1) _ (Nat.le_refl _) (by omega) (by unfold nu2; rw [if_pos yP]) ?_
      rw [Nat.sub_self, Nat.add_zero, show nu1 C m a + 1 - d = nu1 C m a - d + 1 by omega]
      exact (fun z hz => by simp only [List.mem_cons, List.not_mem_nil, or_false] at hz; rcases hz with rfl | rfl | rfl | rfl <;> exact xlk_mem rfl)
    · refine sX11_number_47 (fun _ => ?_) (fun w => absurd rfl w)
      exact aw_lv (fun z hz => by simp only [List.mem_cons, List.not_mem_nil, or_false] at hz; rcases hz with rfl | rfl | rfl | rfl <;> exact xlk_mem rfl) (no (bF nuP_iff (fun w => by rw [y] at w; exact absurd w.2 (by decide))))
  refine sX11_number_0 rfl ?_
  refine sX11_number_1 ?_
  refine nX11_number_2 ?_
  refine sX11_number_3 ?_
  refine nX11_number_4 ?_
  refine sX11_number_5 ?_
  suffices H : ∀ f q lv0, a ≤ q → q + f = m → rnd cD C m q = nu1 C m a → (∀ z ∈ ([(0, .ref b), (2, .int (nI (q - d))), (3, .int (nI (q - a))), (4, .int (nI 0))] : List (Nat × Value)), z ∈ lv0) → aw g l mX11_number 7 lv0 [] (xB h b K) Q from H (m - a) a _ (Nat.le_refl _) (by omega) rfl (by rw [Nat.sub_self, show a - d = p by omega]; exact (fun z hz => by simp only [List.mem_cons, List.not_mem_nil, or_false] at hz; rcases hz with rfl | rfl | rfl | rfl <;> exact xlk_mem rfl))
  intro f
  induction f with
  | zero =>
    intro q lv0 h1 h2 h3 hlv
    refine aw_lv hlv ?_
    refine sX11_number_7 rfl ?_
    refine sX11_number_8 rfl ?_
    refine tX11_number_9 hS (Nat.le_of_ble_eq_true rfl) ?_
    refine c_at hS hT (by omega) (by omega) ?_
    rw [pl q (by omega)]
    refine sX11_number_12 (Nat.le_of_ble_eq_true rfl) ?_
    refine c_isDigit11 (hC.2.2 _) (fun z => absurd (cD_lt hC z) (by omega)) (fun z => ?_)
    refine sX11_number_15 (fun _ => ?_) (fun w => absurd rfl w)
    have e3 : q = nu1 C m a := by rw [← h3, rnd_stop (Or.inl z)]
    refine fst _ ?_
    rw [← e3]
    exact (fun z hz => by simp only [List.mem_cons, List.not_mem_nil, or_false] at hz; rcases hz with rfl | rfl | rfl | rfl <;> exact xlk_mem rfl)
  | succ f ih =>
    intro q lv0 h1 h2 h3 hlv
    refine aw_lv hlv ?_
    refine sX11_number_7 rfl ?_
    refine sX11_number_8 rfl ?_
    refine tX11_number_9 hS (Nat.le_of_ble_eq_true rfl) ?_
    refine c_at hS hT (by omega) (by omega) ?_
    rw [pl q (by omega)]
    refine sX11_number_12 (Nat.le_of_ble_eq_true rfl) ?_
    refine c_isDigit11 (hC.2.2 _) (fun z => ?_) (fun z => ?_)
    · refine sX11_number_15 (fun w => absurd w (by decide)) (fun _ => ?_)
      refine nX11_number_18 rfl ?_
      refine nX11_number_21 rfl ?_
      refine sX11_number_24 ?_
      refine ih (q + 1) _ (by omega) (by omega) ((rnd_step (q := q) (by omega) z).symm.trans h3) ?_
      rw [show q + 1 - d = q - d + 1 by omega, show q + 1 - a = q - a + 1 by omega]
      exact (fun z hz => by simp only [List.mem_cons, List.not_mem_nil, or_false] at hz; rcases hz with rfl | rfl | rfl | rfl <;> exact xlk_mem rfl)
    · refine sX11_number_15 (fun _ => ?_) (fun w => absurd rfl w)
      have e3 : q = nu1 C m a := by rw [← h3, rnd_stop (Or.inl z)]
      refine fst _ ?_
      rw [← e3]
      exact (fun z hz => by simp only [List.mem_cons, List.not_mem_nil, or_false] at hz; rcases hz with rfl | rfl | rfl | rfl <;> exact xlk_mem rfl)
theorem c_lex {p : Nat} (hS : RS h b) (hT : RT K C m d n lo) (hp : p ≤ n) (hlo : lo ≤ p) (k : ∀ K', ro K K' → RT K' C m d n lo → RLx K' C m d lo (tkF C m (p + d)) → Q none (xB h b K')) : ac g l mX11_lex [.ref b, .int (nI p)] (xB h b K) Q := by
  refine ac_of (by decide) (Nat.le_of_ble_eq_true rfl) ?_
  have hC := hT.1
  have hm := hC.1
  have hn : n + d = m := hT.2.1
  have hs : K 0 21 = nI n := hT.2.2.1
  have pl : ∀ q, d ≤ q → q - d + d = q := fun q hq => by omega
  have fin : ∀ (a : Nat) (lv0 : List (Nat × Value)), lo + d ≤ a → a ≤ m → a = tkF C m (p + d) → (∀ z ∈ ([(0, .ref b), (2, .int (nI (a - d)))] : List (Nat × Value)), z ∈ lv0) → aw g l mX11_lex 46 lv0 [] (xB h b K) Q := by
    intro a lv0 hda ham ha hlv
    refine aw_lv hlv ?_
    rw [← ha] at k
    have hca := hC.2.2 a
    refine sX11_lex_46 rfl ?_
    refine sX11_lex_47 rfl ?_
    refine tX11_lex_48 hS ?_
    refine sX11_lex_51 rfl ?_
    refine sX11_lex_52 rfl ?_
    refine tX11_lex_53 hS ?_
    refine sX11_lex_56 rfl ?_
    refine nX11_lex_57 ?_
    refine tX11_lex_58 hS ?_
    obtain ⟨K1, hK1⟩ : ∃ K1, K1 = xup2 (xup2 (xup2 K 0 23 (nI (a - d))) 0 24 (nI (a - d))) 0 22 (nI 0) := ⟨_, rfl⟩
    have o1 : ro K K1 := ⟨fun r hr => by rw [hK1, xup2_r hr, xup2_r hr, xup2_r hr], fun j a1 a2 a3 => by rw [hK1, xup2_n a1, xup2_n a3, xup2_n a2]⟩
    have hT1 := RT_ro o1 hT
    have e22 : K1 0 22 = nI 0 := by rw [hK1, xup2_s]
    have e23 : K1 0 23 = nI (a - d) := by rw [hK1, xup2_n (by decide), xup2_n (by decide), xup2_s]
    have e24 : K1 0 24 = nI (a - d) := by rw [hK1, xup2_n (by decide), xup2_s]
    rw [← hK1]
    refine sX11_lex_61 rfl ?_
    refine sX11_lex_62 rfl ?_
    refine tX11_lex_63 hS ?_
    rw [hT1.2.2.1]
    refine nX11_lex_66 (by omega) (by omega) (fun z => ?_) (fun z => ?_)
    · -- there is a byte
      have last : ∀ (K2 : Nat → Nat → Int32) (lv1 : List (Nat × Value)), ro K1 K2 → K2 0 23 = nI (a - d) → K2 0 22 = nI (if tkK C m a ≤ 3 then tkK C m a else 4) → (∀ z ∈ ([(0, .ref b), (2, .int (nI (tkT C m a - d)))] : List (Nat × Value)), z ∈ lv1) → aw g l mX11_lex 234 lv1 [] (xB h b K2) Q := by
        intro K2 lv1 o2 f23 f22 hlv1
        refine aw_lv hlv1 ?_
        refine sX11_lex_234 rfl ?_
        refine sX11_lex_235 rfl ?_
        refine tX11_lex_236 hS ?_
        have o3 : ro K2 (xup2 K2 0 24 (nI (tkT C m a - d))) := ⟨fun r hr => xup2_r hr, fun j _ _ a3 => xup2_n a3⟩
        exact sX11_lex_239 (k _ (ro_t o1 (ro_t o2 o3)) (RT_ro (ro_t o2 o3) hT1) ⟨hda, ham, by rw [xup2_n (by decide)]; exact f23, xup2_s, by rw [xup2_n (by decide)]; exact f22⟩)
      refine sX11_lex_70 rfl ?_
      refine sX11_lex_71 rfl ?_
      refine tX11_lex_72 hS (Nat.le_of_ble_eq_true rfl) ?_
      refine c_at hS hT1 (by omega) (by omega) ?_
      rw [pl a (by omega)]
      refine sX11_lex_75 ?_
      refine sX11_lex_76 rfl ?_
      refine sX11_lex_77 (Nat.le_of_ble_eq_true rfl) ?_
      refine c_isLetter11 hca (fun y => ?_) (fun y1 => ?_)
      · refine sX11_lex_80 (fun w => absurd w (by decide)) (fun _ => ?_)
        have eT : tkT C m a = rnd cA C m a := by unfold tkT; rw [if_neg (by omega), if_pos y]
        have eK : tkK C m a = if 24 < rnd cA C m a - a then 1 else 2 := by unfold tkK; rw [if_neg (by omega), if_pos y]
        have rm : rnd cA C m a ≤ m := rnd_le ham
        have rg := rnd_ge cA C m a
        have done : ∀ (q : Nat) (lv1 : List (Nat × Value)), q = rnd cA C m a → (∀ z ∈ ([(0, .ref b), (2, .int (nI (q - d)))] : List (Nat × Value)), z ∈ lv1) → aw g l mX11_lex 111 lv1 [] (xB h b K1) Q := by
          intro q lv1 hq hlv1
          refine aw_lv hlv1 ?_
          refine sX11_lex_111 rfl ?_
          refine sX11_lex_112 rfl ?_
          refine sX11_lex_113 rfl ?_
          refine tX11_lex_114 hS ?_
          rw [e23]
          refine nX11_lex_117 (by omega) ?_
          refine nX11_lex_118 ?_
          refine nX11_lex_120 (by omega) (by omega) (fun w => ?_) (fun w => ?_)
          · refine nX11_lex_127 ?_
            refine tX11_lex_128 hS ?_
            refine sX11_lex_131 ?_
            refine last _ _ ⟨fun r hr => xup2_r hr, fun j a1 _ _ => xup2_n a1⟩ (by rw [xup2_n (by decide)]; exact e23) (by rw [xup2_s, eK, if_neg (show ¬ 24 < rnd cA C m a - a by omega), if_pos (by decide)]) ?_
            rw [eT, ← hq]
            exact (fun z hz => by simp only [List.mem_cons, List.not_mem_nil, or_false] at hz; rcases hz with rfl | rfl <;> exact xlk_mem rfl)
          · refine nX11_lex_123 ?_
            refine sX11_lex_124 ?_
            refine tX11_lex_128 hS ?_
            refine sX11_lex_131 ?_
            refine last _ _ ⟨fun r hr => xup2_r hr, fun j a1 _ _ => xup2_n a1⟩ (by rw [xup2_n (by decide)]; exact e23) (by rw [xup2_s, eK, if_pos (show 24 < rnd cA C m a - a by omega), if_pos (by decide)]) ?_
            rw [eT, ← hq]
            exact (fun z hz => by simp only [List.mem_cons, List.not_mem_nil, or_false] at hz; rcases hz with rfl | rfl <;> exact xlk_mem rfl)
        suffices H : ∀ f q lv1, a ≤ q → q + f = m → rnd cA C m q = rnd cA C m a → (∀ z ∈ ([(0, .ref b), (2, .int (nI (q - d)))] : List (Nat × Value)), z ∈ lv1) → aw g l mX11_lex 83 lv1 [] (xB h b K1) Q from H (m - a) a _ (Nat.le_refl _) (by omega) rfl (fun z hz => by simp only [List.mem_cons, List.not_mem_nil, or_false] at hz; rcases hz with rfl | rfl <;> exact xlk_mem rfl)
        intro f
        induction f with
        | zero =>
          intro q lv1 h1 h2 h3 hlv1
          refine aw_lv hlv1 ?_
          have zq : C q = 0 := hC.2.1 q (by omega)
          refine sX11_lex_83 rfl ?_
          refine sX11_lex_84 rfl ?_
          refine tX11_lex_85 hS (Nat.le_of_ble_eq_true rfl) ?_
          refine c_at hS hT1 (by omega) (by omega) ?_
          rw [pl q (by omega), zq]
          refine sX11_lex_88 (Nat.le_of_ble_eq_true rfl) ?_
          refine c_isLetter11 (by decide) (fun w => absurd w (by decide)) (fun _ => ?_)
          refine sX11_lex_91 (fun w => absurd rfl w) (fun _ => ?_)
          refine sX11_lex_94 rfl ?_
          refine sX11_lex_95 rfl ?_
          refine tX11_lex_96 hS (Nat.le_of_ble_eq_true rfl) ?_
          refine c_at hS hT1 (by omega) (by omega) ?_
          rw [pl q (by omega), zq]
          refine sX11_lex_99 (Nat.le_of_ble_eq_true rfl) ?_
          refine c_isDigit11 (by decide) (fun w => absurd w (by decide)) (fun _ => ?_)
          refine sX11_lex_102 (fun _ => ?_) (fun w => absurd rfl w)
          exact done q _ (by rw [← h3, rnd_stop (Or.inr (by omega))]) (fun z hz => by simp only [List.mem_cons, List.not_mem_nil, or_false] at hz; rcases hz with rfl | rfl <;> exact xlk_mem rfl)
        | succ f ih =>
          intro q lv1 h1 h2 h3 hlv1
          refine aw_lv hlv1 ?_
          have go : cA (C q) = true → aw g l mX11_lex 105 [(0, .ref b), (2, .int (nI (q - d)))] [] (xB h b K1) Q := fun w => by
            refine nX11_lex_105 rfl ?_
            refine sX11_lex_108 ?_
            refine ih (q + 1) _ (by omega) (by omega) ((rnd_step (q := q) (by omega) w).symm.trans h3) ?_
            rw [show q + 1 - d = q - d + 1 by omega]
            exact (fun z hz => by simp only [List.mem_cons, List.not_mem_nil, or_false] at hz; rcases hz with rfl | rfl <;> exact xlk_mem rfl)
          refine sX11_lex_83 rfl ?_
          refine sX11_lex_84 rfl ?_
          refine tX11_lex_85 hS (Nat.le_of_ble_eq_true rfl) ?_
          refine c_at hS hT1 (by omega) (by omega) ?_
          rw [pl q (by omega)]
          refine sX11_lex_88 (Nat.le_of_ble_eq_true rfl) ?_
          refine c_isLetter11 (hC.2.2 q) (fun w => ?_) (fun w1 => ?_)
          · exact sX11_lex_91 (fun _ => go (cA_iff.mpr (Or.inl w))) (fun w => absurd w (by decide))
          refine sX11_lex_91 (fun w => absurd rfl w) (fun _ => ?_)
          refine sX11_lex_94 rfl ?_
          refine sX11_lex_95 rfl ?_
          refine tX11_lex_96 hS (Nat.le_of_ble_eq_true rfl) ?_
          refine c_at hS hT1 (by omega) (by omega) ?_
          rw [pl q (by omega)]
          refine sX11_lex_99 (Nat.le_of_ble_eq_true rfl) ?_
          refine c_isDigit11 (hC.2.2 q) (fun w => ?_) (fun w2 => ?_)
          · exact sX11_lex_102 (fun w => absurd w (by decide)) (fun _ => go (cA_iff.mpr (Or.inr w)))
          refine sX11_lex_102 (fun _ => ?_) (fun w => absurd rfl w)
          exact done q _ (by rw [← h3, rnd_stop (Or.inl (bF cA_iff (by rw [w1, w2]; decide)))]) (fun z hz => by simp only [List.mem_cons, List.not_mem_nil, or_false] at hz; rcases hz with rfl | rfl <;> exact xlk_mem rfl)
      refine sX11_lex_80 (fun _ => ?_) (fun w => absurd rfl w)
      have y1' : ¬ cL (C a) = true := by rw [y1]; decide
      refine sX11_lex_134 rfl ?_
      refine sX11_lex_135 (Nat.le_of_ble_eq_true rfl) ?_
      refine c_isDigit11 hca (fun y => ?_) (fun y2 => ?_)
      · refine sX11_lex_138 (fun w => absurd w (by decide)) (fun _ => ?_)
        refine sX11_lex_141 rfl ?_
        refine sX11_lex_142 rfl ?_
        refine tX11_lex_143 hS (Nat.le_of_ble_eq_true rfl) ?_
        refine c_number11 hS hT1 (by omega) (by omega) ?_
        rw [pl a (by omega)]
        have eT : tkT C m a = nu3 C m a := by unfold tkT; rw [if_neg (by omega), if_neg y1', if_pos y]
        have eK : tkK C m a = nuK C m a := by unfold tkK; rw [if_neg (by omega), if_neg y1', if_pos y]
        have := nuK_or C m a
        refine sX11_lex_146 ?_
        refine sX11_lex_147 ?_
        refine last _ _ ⟨fun r hr => xup2_r hr, fun j a1 _ _ => xup2_n a1⟩ (by rw [xup2_n (by decide)]; exact e23) (by rw [xup2_s, eK, if_pos (by omega)]) ?_
        rw [eT]
        exact (fun z hz => by simp only [List.mem_cons, List.not_mem_nil, or_false] at hz; rcases hz with rfl | rfl <;> exact xlk_mem rfl)
      refine sX11_lex_138 (fun _ => ?_) (fun w => absurd rfl w)
      have y2' : ¬ cD (C a) = true := by rw [y2]; decide
      have eT : tkT C m a = a + 1 := by unfold tkT; rw [if_neg (by omega), if_neg y1', if_neg y2']
      have yes : cS (C a) = true → aw g l mX11_lex 210 [(0, .ref b), (2, .int (nI (a - d)))] [] (xB h b K1) Q := fun w => by
        have eK : tkK C m a = C a := by unfold tkK; rw [if_neg (by omega), if_neg y1', if_neg y2', if_pos w]
        have w3 := cS_gt w
        refine sX11_lex_210 ?_
        refine sX11_lex_211 ?_
        refine sX11_lex_215 ?_
        refine sX11_lex_217 rfl ?_
        refine sX11_lex_218 rfl ?_
        refine sX11_lex_220 (fun w => absurd w (by decide)) (fun _ => ?_)
        refine nX11_lex_223 ?_
        refine sX11_lex_224 ?_
        refine tX11_lex_228 hS ?_
        refine nX11_lex_231 rfl ?_
        refine last _ _ ⟨fun r hr => xup2_r hr, fun j a1 _ _ => xup2_n a1⟩ (by rw [xup2_n (by decide)]; exact e23) (by rw [xup2_s, eK, if_neg (by omega)]) ?_
        rw [eT, show a + 1 - d = a - d + 1 by omega]
        exact (fun z hz => by simp only [List.mem_cons, List.not_mem_nil, or_false] at hz; rcases hz with rfl | rfl <;> exact xlk_mem rfl)
      refine sX11_lex_150 rfl ?_
      refine nX11_lex_151 ?_
      refine nX11_lex_153 (by omega) (by omega) (fun w => aw_lv (fun z hz => by simp only [List.mem_cons, List.not_mem_nil, or_false] at hz; rcases hz with rfl | rfl <;> exact xlk_mem rfl) (yes (cS_iff.mpr (by omega)))) (fun v1 => ?_)
      refine sX11_lex_156 rfl ?_
      refine nX11_lex_157 ?_
      refine nX11_lex_159 (by omega) (by omega) (fun w => aw_lv (fun z hz => by simp only [List.mem_cons, List.not_mem_nil, or_false] at hz; rcases hz with rfl | rfl <;> exact xlk_mem rfl) (yes (cS_iff.mpr (by omega)))) (fun v2 => ?_)
      refine sX11_lex_162 rfl ?_
      refine nX11_lex_163 ?_
      refine nX11_lex_165 (by omega) (by omega) (fun w => aw_lv (fun z hz => by simp only [List.mem_cons, List.not_mem_nil, or_false] at hz; rcases hz with rfl | rfl <;> exact xlk_mem rfl) (yes (cS_iff.mpr (by omega)))) (fun v3 => ?_)
      refine sX11_lex_168 rfl ?_
      refine nX11_lex_169 ?_
      refine nX11_lex_171 (by omega) (by omega) (fun w => aw_lv (fun z hz => by simp only [List.mem_cons, List.not_mem_nil, or_false] at hz; rcases hz with rfl | rfl <;> exact xlk_mem rfl) (yes (cS_iff.mpr (by omega)))) (fun v4 => ?_)
      refine sX11_lex_174 rfl ?_
      refine nX11_lex_175 ?_
      refine nX11_lex_177 (by omega) (by omega) (fun w => aw_lv (fun z hz => by simp only [List.mem_cons, List.not_mem_nil, or_false] at hz; rcases hz with rfl | rfl <;> exact xlk_mem rfl) (yes (cS_iff.mpr (by omega)))) (fun v5 => ?_)
      refine sX11_lex_180 rfl ?_
      refine nX11_lex_181 ?_
      refine nX11_lex_183 (by omega) (by omega) (fun w => aw_lv (fun z hz => by simp only [List.mem_cons, List.not_mem_nil, or_false] at hz; rcases hz with rfl | rfl <;> exact xlk_mem rfl) (yes (cS_iff.mpr (by omega)))) (fun v6 => ?_)
      refine sX11_lex_186 rfl ?_
      refine nX11_lex_187 ?_
      refine nX11_lex_189 (by omega) (by omega) (fun w => aw_lv (fun z hz => by simp only [List.mem_cons, List.not_mem_nil, or_false] at hz; rcases hz with rfl | rfl <;> exact xlk_mem rfl) (yes (cS_iff.mpr (by omega)))) (fun v7 => ?_)
      refine sX11_lex_192 rfl ?_
      refine nX11_lex_193 ?_
      refine nX11_lex_195 (by omega) (by omega) (fun w => aw_lv (fun z hz => by simp only [List.mem_cons, List.not_mem_nil, or_false] at hz; rcases hz with rfl | rfl <;> exact xlk_mem rfl) (yes (cS_iff.mpr (by omega)))) (fun v8 => ?_)
      refine sX11_lex_198 rfl ?_
      refine nX11_lex_199 ?_
      refine nX11_lex_201 (by omega) (by omega) (fun w => aw_lv (fun z hz => by simp only [List.mem_cons, List.not_mem_nil, or_false] at hz; rcases hz with rfl | rfl <;> exact xlk_mem rfl) (yes (cS_iff.mpr (by omega)))) (fun v9 => ?_)
      refine sX11_lex_204 rfl ?_
      refine nX11_lex_205 ?_
      refine nX11_lex_207 (by omega) (by omega) (fun v0 => ?_) (fun w => aw_lv (fun z hz => by simp only [List.mem_cons, List.not_mem_nil, or_false] at hz; rcases hz with rfl | rfl <;> exact xlk_mem rfl) (yes (cS_iff.mpr (by omega))))
      have w : cS (C a) = false := bF cS_iff (by omega)
      have eK : tkK C m a = 1 := by unfold tkK; rw [if_neg (by omega), if_neg y1', if_neg y2', if_neg (by rw [w]; decide)]
      refine sX11_lex_214 ?_
      refine sX11_lex_215 ?_
      refine sX11_lex_217 rfl ?_
      refine sX11_lex_218 rfl ?_
      refine sX11_lex_220 (fun _ => ?_) (fun w => absurd rfl w)
      refine nX11_lex_227 ?_
      refine tX11_lex_228 hS ?_
      refine nX11_lex_231 rfl ?_
      refine last _ _ ⟨fun r hr => xup2_r hr, fun j a1 _ _ => xup2_n a1⟩ (by rw [xup2_n (by decide)]; exact e23) (by rw [xup2_s, eK, if_pos (by decide)]) ?_
      rw [eT, show a + 1 - d = a - d + 1 by omega]
      exact (fun z hz => by simp only [List.mem_cons, List.not_mem_nil, or_false] at hz; rcases hz with rfl | rfl <;> exact xlk_mem rfl)
    · refine sX11_lex_69 (k K1 o1 hT1 ⟨hda, ham, e23, ?_, ?_⟩)
      · rw [e24]; unfold tkT; rw [if_pos (by omega)]
      · rw [e22, tkK_0 (by omega), if_pos (by decide)]
  refine sX11_lex_0 rfl ?_
  refine sX11_lex_1 ?_
  suffices H : ∀ f q lv0, p + d ≤ q → q + f = m → rnd cBl C m q = tkF C m (p + d) → (∀ z ∈ ([(0, .ref b), (2, .int (nI (q - d)))] : List (Nat × Value)), z ∈ lv0) → aw g l mX11_lex 2 lv0 [] (xB h b K) Q from H (m - (p + d)) (p + d) _ (Nat.le_refl _) (by omega) rfl (by rw [show p + d - d = p by omega]; exact (fun z hz => by simp only [List.mem_cons, List.not_mem_nil, or_false] at hz; rcases hz with rfl | rfl <;> exact xlk_mem rfl))
  intro f
  induction f with
  | zero =>
    intro q lv0 h1 h2 h3 hlv
    refine aw_lv hlv ?_
    refine sX11_lex_2 rfl ?_
    refine sX11_lex_3 rfl ?_
    refine tX11_lex_4 hS ?_
    rw [hs]
    refine nX11_lex_7 (by omega) (by omega) (fun _ => ?_) (fun z => absurd z (by omega))
    exact fin q _ (by omega) (by omega) (by rw [← h3, rnd_stop (Or.inr (by omega))]) (fun z hz => by simp only [List.mem_cons, List.not_mem_nil, or_false] at hz; rcases hz with rfl | rfl <;> exact xlk_mem rfl)
  | succ f ih =>
    intro q lv0 h1 h2 h3 hlv
    refine aw_lv hlv ?_
    have hcq := hC.2.2 q
    have go : cBl (C q) = true → aw g l mX11_lex 40 [(0, .ref b), (2, .int (nI (q - d)))] [] (xB h b K) Q := fun w => by
      refine nX11_lex_40 rfl ?_
      refine sX11_lex_43 ?_
      refine ih (q + 1) _ (by omega) (by omega) ((rnd_step (q := q) (by omega) w).symm.trans h3) ?_
      rw [show q + 1 - d = q - d + 1 by omega]
      exact (fun z hz => by simp only [List.mem_cons, List.not_mem_nil, or_false] at hz; rcases hz with rfl | rfl <;> exact xlk_mem rfl)
    refine sX11_lex_2 rfl ?_
    refine sX11_lex_3 rfl ?_
    refine tX11_lex_4 hS ?_
    rw [hs]
    refine nX11_lex_7 (by omega) (by omega) (fun z => absurd z (by omega)) (fun _ => ?_)
    refine sX11_lex_10 rfl ?_
    refine sX11_lex_11 rfl ?_
    refine tX11_lex_12 hS (Nat.le_of_ble_eq_true rfl) ?_
    refine c_at hS hT (by omega) (by omega) ?_
    rw [pl q (by omega)]
    refine nX11_lex_15 ?_
    refine nX11_lex_17 (by omega) (by omega) (fun w => go (cBl_iff.mpr (by omega))) (fun w1 => ?_)
    refine sX11_lex_20 rfl ?_
    refine sX11_lex_21 rfl ?_
    refine tX11_lex_22 hS (Nat.le_of_ble_eq_true rfl) ?_
    refine c_at hS hT (by omega) (by omega) ?_
    rw [pl q (by omega)]
    refine nX11_lex_25 ?_
    refine nX11_lex_27 (by omega) (by omega) (fun w => go (cBl_iff.mpr (by omega))) (fun w2 => ?_)
    refine sX11_lex_30 rfl ?_
    refine sX11_lex_31 rfl ?_
    refine tX11_lex_32 hS (Nat.le_of_ble_eq_true rfl) ?_
    refine c_at hS hT (by omega) (by omega) ?_
    rw [pl q (by omega)]
    refine nX11_lex_35 ?_
    refine nX11_lex_37 (by omega) (by omega) (fun w3 => ?_) (fun w => go (cBl_iff.mpr (by omega)))
    exact fin q _ (by omega) (by omega) (by rw [← h3, rnd_stop (Or.inl (bF cBl_iff (by omega)))]) (fun z hz => by simp only [List.mem_cons, List.not_mem_nil, or_false] at hz; rcases hz with rfl | rfl <;> exact xlk_mem rfl)
theorem c_isSign11 {a c : Nat} (hS : RS h b) (hT : RT K C m d n lo) (hL : RLx K C m d lo a) (hc : 3 < c) (hc2 : c < 128) (k1 : tkK C m a = c → Q (some (.int 1)) (xB h b K)) (k0 : tkK C m a ≠ c → Q (some (.int 0)) (xB h b K)) : ac g l mX11_isSign [.ref b, .int (nI c)] (xB h b K) Q := by
  refine ac_of (by decide) (Nat.le_of_ble_eq_true rfl) ?_
  obtain ⟨hda, ham, e23, e24, e22⟩ := hL
  have hC := hT.1
  have hm := hC.1
  have big := tkK_big C m a
  refine sX11_isSign_0 rfl ?_
  refine tX11_isSign_1 hS ?_
  rw [e22]
  refine nX11_isSign_4 ?_
  refine nX11_isSign_5 (by split <;> omega) (by omega) (fun z => ?_) (fun z => ?_)
  · refine sX11_isSign_24 ?_
    exact sX11_isSign_25 (Or.inl rfl) (k0 (fun w => by rw [if_neg (by omega)] at z; exact z rfl))
  · have z3 : ¬ tkK C m a ≤ 3 := fun w => by rw [if_pos w] at z; omega
    rcases big.2 with w | ⟨w, w2, -, -, -⟩
    · exact absurd w z3
    have hca := hC.2.2 a
    refine sX11_isSign_8 rfl ?_
    refine sX11_isSign_9 rfl ?_
    refine tX11_isSign_10 hS ?_
    rw [e23]
    refine tX11_isSign_13 hS (Nat.le_of_ble_eq_true rfl) ?_
    refine c_at hS hT (by omega) (by omega) ?_
    rw [show a - d + d = a by omega]
    refine sX11_isSign_16 rfl ?_
    refine nX11_isSign_17 (by omega) (by omega) (fun y => ?_) (fun y => ?_)
    · refine sX11_isSign_24 ?_
      exact sX11_isSign_25 (Or.inl rfl) (k0 (fun w => y (by omega)))
    · refine sX11_isSign_20 ?_
      refine sX11_isSign_21 ?_
      exact sX11_isSign_25 (Or.inr rfl) (k1 (by omega))
end Lex2
