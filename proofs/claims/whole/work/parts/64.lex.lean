/-! ===== the class's tokens ===== -/
def CK (h : xH) (tk tx : Nat) : Prop := (xT h tk).1 = 8 ∧ xP h tk 0 = some tx ∧ xT h tx = (101, 10240)
def TJ (J : Nat → Nat → Int32) (tk tx : Nat) (C : Nat → Nat) (m : Nat) : Prop := J tk 1 = nI m ∧ m ≤ 10240 ∧ tOk C m ∧ ∀ q, q < m → J tx q = sb (C q)
theorem CK_ne {h : xH} {tk tx : Nat} (hk : CK h tk tx) : tx ≠ tk := by
  rintro rfl
  have := hk.1
  rw [hk.2.2] at this
  exact absurd this (show (101 : Nat) ≠ 8 by decide)
theorem TJ_c {J J' : Nat → Nat → Int32} {tk tx : Nat} {C : Nat → Nat} {m : Nat} (o : J' tx = J tx) (e : J' tk 1 = J tk 1) (hT : TJ J tk tx C m) : TJ J' tk tx C m := by
  obtain ⟨a, b, c, d⟩ := hT
  exact ⟨e.trans a, b, c, fun q hq => by rw [o]; exact d q hq⟩
def nuW (C : Nat → Nat) (m a : Nat) : Bool := !(nuP C m a) && !(nuE C m a)
def TS (J : Nat → Nat → Int32) (tk : Nat) (C : Nat → Nat) (m a : Nat) : Prop := J tk 4 = nI a ∧ J tk 3 = nI (tkK C m a) ∧ J tk 2 = nI (tkT C m a) ∧ (tkK C m a = 3 → J tk 5 = if nuW C m a = true then 1 else 0)
theorem nu1_ge (C : Nat → Nat) (m a : Nat) : a ≤ nu1 C m a := rnd_ge cD C m a
theorem nu1_le {C : Nat → Nat} {m a : Nat} (h : a ≤ m) : nu1 C m a ≤ m := rnd_le h
theorem cD_lt {C : Nat → Nat} {m q : Nat} (hC : tOk C m) (h : cD (C q) = true) : q < m := by
  rcases Nat.lt_or_ge q m with z | z
  · exact z
  · rw [hC.2.1 q z] at h; exact absurd h (by decide)
theorem nu2_ge (C : Nat → Nat) (m a : Nat) : nu1 C m a ≤ nu2 C m a := by
  unfold nu2
  split
  · exact Nat.le_trans (Nat.le_succ _) (rnd_ge _ _ _ _)
  · exact Nat.le_refl _
theorem nu2_le {C : Nat → Nat} {m a : Nat} (hC : tOk C m) (h : a ≤ m) : nu2 C m a ≤ m := by
  unfold nu2
  split
  · rename_i z
    exact rnd_le (Nat.le_of_lt (cD_lt hC (nuP_iff.mp z).2))
  · exact nu1_le h
theorem nuQ_ge (C : Nat → Nat) (m a : Nat) : nu2 C m a + 1 ≤ nuQ C m a ∧ nuQ C m a ≤ nu2 C m a + 2 := by
  unfold nuQ
  split <;> omega
theorem nu3_ge (C : Nat → Nat) (m a : Nat) : nu2 C m a ≤ nu3 C m a := by
  unfold nu3
  split
  · have := nuQ_ge C m a; have := rnd_ge cD C m (nuQ C m a); omega
  · exact Nat.le_refl _
theorem nu3_le {C : Nat → Nat} {m a : Nat} (hC : tOk C m) (h : a ≤ m) : nu3 C m a ≤ m := by
  unfold nu3
  split
  · rename_i z
    exact rnd_le (Nat.le_of_lt (cD_lt hC (nuE_iff.mp z).2))
  · exact nu2_le hC h
theorem tkF_ge (C : Nat → Nat) (m q : Nat) : q ≤ tkF C m q := rnd_ge _ _ _ _
theorem tkF_le {C : Nat → Nat} {m q : Nat} (h : q ≤ m) : tkF C m q ≤ m := rnd_le h
theorem tkT_le {C : Nat → Nat} {m a : Nat} (hC : tOk C m) (h : a ≤ m) : tkT C m a ≤ m := by
  unfold tkT
  split
  · exact h
  split
  · exact rnd_le h
  split
  · exact nu3_le hC h
  · omega
theorem rnd_gt {P : Nat → Bool} {C : Nat → Nat} {m q : Nat} (hq : q < m) (h : P (C q) = true) : q < rnd P C m q := by
  rw [rnd_step hq h]; exact rnd_ge _ _ _ _
theorem tkT_gt {C : Nat → Nat} {m a : Nat} (h : a < m) : a < tkT C m a := by
  unfold tkT
  rw [if_neg (by omega)]
  split
  · rename_i z; exact rnd_gt h (cA_iff.mpr (Or.inl z))
  split
  · rename_i z
    have := nu2_ge C m a
    have := nu3_ge C m a
    have : a < nu1 C m a := rnd_gt h z
    omega
  · omega
theorem tkT_ge (C : Nat → Nat) (m a : Nat) : a ≤ tkT C m a := by
  rcases Nat.lt_or_ge a m with h | h
  · exact Nat.le_of_lt (tkT_gt h)
  · unfold tkT; rw [if_pos h]; exact Nat.le_refl _
theorem tkK_0 {C : Nat → Nat} {m a : Nat} (h : m ≤ a) : tkK C m a = 0 := by unfold tkK; rw [if_pos h]
theorem nuK_or (C : Nat → Nat) (m a : Nat) : nuK C m a = 1 ∨ nuK C m a = 3 := by unfold nuK; split <;> simp
theorem tkK_lt {C : Nat → Nat} {m a : Nat} (h : tkK C m a ≠ 0) : a < m := by
  rcases Nat.lt_or_ge a m with z | z
  · exact z
  · exact absurd (tkK_0 z) h
theorem tkK_big (C : Nat → Nat) (m a : Nat) : tkK C m a < 128 ∧ (tkK C m a ≤ 3 ∨ tkK C m a = C a ∧ cS (C a) = true ∧ cL (C a) = false ∧ cD (C a) = false ∧ tkT C m a = a + 1) := by
  unfold tkK
  split
  · omega
  rename_i z0
  by_cases z1 : cL (C a) = true
  · rw [if_pos z1]; split <;> omega
  rw [if_neg z1]
  by_cases z2 : cD (C a) = true
  · rw [if_pos z2]; have := nuK_or C m a; omega
  rw [if_neg z2]
  by_cases z3 : cS (C a) = true
  · rw [if_pos z3]
    refine ⟨by have := cS_iff.mp z3; omega, Or.inr ⟨rfl, z3, by simpa using z1, by simpa using z2, ?_⟩⟩
    unfold tkT; rw [if_neg z0, if_neg z1, if_neg z2]
  · rw [if_neg z3]; omega
theorem cS_gt {c : Nat} (h : cS c = true) : 3 < c ∧ c < 128 := by have := cS_iff.mp h; omega
section Lex1
variable {g : xG} {l : Launch} {h : xH} {J : Nat → Nat → Int32} {Q : Option Value → xH → Prop} {tk tx m : Nat} {C : Nat → Nat}
theorem c_byteAt8 {q : Nat} (hk : CK h tk tx) (hT : TJ J tk tx C m) (hq : q < 2 ^ 31) (k : Q (some (.int (sb (C q)))) (xJ h J)) : ac g l mX8_byteAt [.ref tk, .int (nI q)] (xJ h J) Q := by
  refine ac_of (by decide) (Nat.le_of_ble_eq_true rfl) ?_
  obtain ⟨t1, p1, t2⟩ := hk
  obtain ⟨e1, hm, hC, hb⟩ := hT
  refine sX8_byteAt_0 rfl ?_
  refine nX8_byteAt_1 hq ?_
  refine sX8_byteAt_4 rfl ?_
  refine sX8_byteAt_5 rfl ?_
  refine jX8_byteAt_6 (by assumption) ?_
  rw [e1]
  refine nX8_byteAt_9 hq (by omega) (fun z => ?_) (fun z => ?_)
  · rw [hC.2.1 q z, sb_0] at k
    refine nX8_byteAt_21 ?_
    exact sX8_byteAt_22 k
  · refine sX8_byteAt_12 rfl ?_
    refine jX8_byteAt_13 (by assumption) (by assumption) ?_
    refine sX8_byteAt_16 rfl ?_
    refine jX8_byteAt_17 (by assumption) (by omega) (by omega) ?_
    rw [hb q z]
    refine sX8_byteAt_18 ?_
    exact sX8_byteAt_22 k
theorem c_passDigits {q : Nat} (hk : CK h tk tx) (hT : TJ J tk tx C m) (hq : q ≤ m) (e2 : J tk 2 = nI q) (k : ∀ J', (∀ r, r ≠ tk → J' r = J r) → (∀ j, j ≠ 2 → J' tk j = J tk j) → J' tk 2 = nI (rnd cD C m q) → Q (some (.int (nI (rnd cD C m q - q)))) (xJ h J')) : ac g l mX8_passDigits [.ref tk] (xJ h J) Q := by
  refine ac_of (by decide) (Nat.le_of_ble_eq_true rfl) ?_
  have hne := CK_ne hk
  obtain ⟨t1, p1, t2⟩ := hk
  obtain ⟨e1, hm, hC, hb⟩ := hT
  refine sX8_passDigits_0 rfl ?_
  refine jX8_passDigits_1 (by assumption) ?_
  rw [e2]
  refine sX8_passDigits_4 ?_
  have fin : ∀ (p : Nat) (J1 : Nat → Nat → Int32) (lv0 : List (Nat × Value)), q ≤ p → p = rnd cD C m q → (∀ r, r ≠ tk → J1 r = J r) → (∀ j, j ≠ 2 → J1 tk j = J tk j) → J1 tk 2 = nI p → (∀ z ∈ ([(0, .ref tk), (1, .int (nI q))] : List (Nat × Value)), z ∈ lv0) → aw g l mX8_passDigits 57 lv0 [] (xJ h J1) Q := by
    intro p J1 lv0 hqp hp o1 o2 e2' hlv
    refine aw_lv hlv ?_
    refine sX8_passDigits_57 rfl ?_
    refine jX8_passDigits_58 (by assumption) ?_
    rw [e2']
    refine sX8_passDigits_61 rfl ?_
    refine nX8_passDigits_62 (by omega) ?_
    subst hp
    exact sX8_passDigits_63 (k J1 o1 o2 e2')
  suffices H : ∀ f p J1 lv0, p + f = m → q ≤ p → rnd cD C m p = rnd cD C m q → (∀ r, r ≠ tk → J1 r = J r) → (∀ j, j ≠ 2 → J1 tk j = J tk j) → J1 tk 2 = nI p → (∀ z ∈ ([(0, .ref tk), (1, .int (nI q))] : List (Nat × Value)), z ∈ lv0) → aw g l mX8_passDigits 5 lv0 [] (xJ h J1) Q from H (m - q) q J _ (by omega) (Nat.le_refl _) rfl (fun _ _ => rfl) (fun _ _ => rfl) e2 (fun z hz => by simp only [List.mem_cons, List.not_mem_nil, or_false] at hz; rcases hz with rfl | rfl <;> exact xlk_mem rfl)
  intro f
  induction f with
  | zero =>
    intro p J1 lv0 hp hqp hr o1 o2 e2' hlv
    refine aw_lv hlv ?_
    refine sX8_passDigits_5 rfl ?_
    refine jX8_passDigits_6 (by assumption) ?_
    rw [e2']
    refine sX8_passDigits_9 rfl ?_
    refine jX8_passDigits_10 (by assumption) ?_
    rw [o2 1 (by decide), e1]
    refine nX8_passDigits_13 (by omega) (by omega) (fun _ => ?_) (fun z => absurd z (by omega))
    exact fin p J1 _ hqp (by rw [← hr, rnd_stop (Or.inr (by omega))]) o1 o2 e2' (fun z hz => by simp only [List.mem_cons, List.not_mem_nil, or_false] at hz; rcases hz with rfl | rfl <;> exact xlk_mem rfl)
  | succ f ih =>
    intro p J1 lv0 hp hqp hr o1 o2 e2' hlv
    refine aw_lv hlv ?_
    have hcp := hC.2.2 p
    refine sX8_passDigits_5 rfl ?_
    refine jX8_passDigits_6 (by assumption) ?_
    rw [e2']
    refine sX8_passDigits_9 rfl ?_
    refine jX8_passDigits_10 (by assumption) ?_
    rw [o2 1 (by decide), e1]
    refine nX8_passDigits_13 (by omega) (by omega) (fun z => absurd z (by omega)) (fun _ => ?_)
    refine sX8_passDigits_16 rfl ?_
    refine jX8_passDigits_17 (by assumption) (by assumption) ?_
    refine sX8_passDigits_20 rfl ?_
    refine jX8_passDigits_21 (by assumption) ?_
    rw [e2']
    refine jX8_passDigits_24 (by assumption) (by omega) (by omega) ?_
    refine nX8_passDigits_25 ?_
    rw [o1 tx hne, hb p (by omega)]
    refine sX8_passDigits_27 (fun z => fin p J1 _ hqp ?_ o1 o2 e2' (fun z hz => by simp only [List.mem_cons, List.not_mem_nil, or_false] at hz; rcases hz with rfl | rfl <;> exact xlk_mem rfl)) (fun z1 => ?_)
    · rw [← hr, rnd_stop (Or.inl (bF cD_iff (by rw [sb_lt hcp (by decide)] at z; omega)))]
    refine sX8_passDigits_30 rfl ?_
    refine jX8_passDigits_31 (by assumption) (by assumption) ?_
    refine sX8_passDigits_34 rfl ?_
    refine jX8_passDigits_35 (by assumption) ?_
    rw [e2']
    refine jX8_passDigits_38 (by assumption) (by omega) (by omega) ?_
    refine nX8_passDigits_39 ?_
    rw [o1 tx hne, hb p (by omega)]
    refine sX8_passDigits_41 (fun z => fin p J1 _ hqp ?_ o1 o2 e2' (fun z hz => by simp only [List.mem_cons, List.not_mem_nil, or_false] at hz; rcases hz with rfl | rfl <;> exact xlk_mem rfl)) (fun z2 => ?_)
    · rw [← hr, rnd_stop (Or.inl (bF cD_iff (by rw [sb_gt hcp (by decide)] at z; omega)))]
    refine sX8_passDigits_44 rfl ?_
    refine sX8_passDigits_45 rfl ?_
    refine jX8_passDigits_46 (by assumption) ?_
    rw [e2']
    refine nX8_passDigits_49 ?_
    refine nX8_passDigits_50 ?_
    refine jX8_passDigits_51 (by assumption) ?_
    refine sX8_passDigits_54 ?_
    refine ih (p + 1) _ _ (by omega) (by omega) ?_ (fun r hr' => by rw [xup2_r hr']; exact o1 r hr') (fun j hj => by rw [xup2_n hj]; exact o2 j hj) xup2_s (fun z hz => by simp only [List.mem_cons, List.not_mem_nil, or_false] at hz; rcases hz with rfl | rfl <;> exact xlk_mem rfl)
    exact (rnd_step (q := p) (by omega) (cD_iff.mpr (by rw [sb_lt hcp (by decide)] at z1; rw [sb_gt hcp (by decide)] at z2; omega))).symm.trans hr
theorem c_passName {a : Nat} (hk : CK h tk tx) (hT : TJ J tk tx C m) (ha : a ≤ m) (e2 : J tk 2 = nI a) (e4 : J tk 4 = nI a) (k : ∀ J', (∀ r, r ≠ tk → J' r = J r) → (∀ j, j ≠ 2 → j ≠ 3 → J' tk j = J tk j) → J' tk 2 = nI (rnd cA C m a) → J' tk 3 = nI (if 24 < rnd cA C m a - a then 1 else 2) → Q none (xJ h J')) : ac g l mX8_passName [.ref tk] (xJ h J) Q := by
  refine ac_of (by decide) (Nat.le_of_ble_eq_true rfl) ?_
  have hne := CK_ne hk
  obtain ⟨t1, p1, t2⟩ := hk
  obtain ⟨e1, hm, hC, hb⟩ := hT
  have fin : ∀ (p : Nat) (J1 : Nat → Nat → Int32) (lv0 : List (Nat × Value)), a ≤ p → p ≤ m → p = rnd cA C m a → (∀ r, r ≠ tk → J1 r = J r) → (∀ j, j ≠ 2 → J1 tk j = J tk j) → J1 tk 2 = nI p → (∀ z ∈ ([(0, .ref tk)] : List (Nat × Value)), z ∈ lv0) → aw g l mX8_passName 54 lv0 [] (xJ h J1) Q := by
    intro p J1 lv0 hqp hpm hp o1 o2 e2' hlv
    refine aw_lv hlv ?_
    refine sX8_passName_54 rfl ?_
    refine sX8_passName_55 rfl ?_
    refine jX8_passName_56 (by assumption) ?_
    rw [e2']
    refine sX8_passName_59 rfl ?_
    refine jX8_passName_60 (by assumption) ?_
    rw [o2 4 (by decide), e4]
    refine nX8_passName_63 (by omega) ?_
    refine nX8_passName_64 ?_
    refine nX8_passName_66 (by omega) (by omega) (fun z => ?_) (fun z => ?_)
    · refine nX8_passName_73 ?_
      refine jX8_passName_74 (by assumption) ?_
      refine sX8_passName_77 (k _ (fun r hr => by rw [xup2_r hr]; exact o1 r hr) (fun j h2 h3 => by rw [xup2_n h3]; exact o2 j h2) (by rw [xup2_n (by decide), e2', hp]) ?_)
      rw [xup2_s, ← hp, if_neg (by omega)]
    · refine nX8_passName_69 ?_
      refine sX8_passName_70 ?_
      refine jX8_passName_74 (by assumption) ?_
      refine sX8_passName_77 (k _ (fun r hr => by rw [xup2_r hr]; exact o1 r hr) (fun j h2 h3 => by rw [xup2_n h3]; exact o2 j h2) (by rw [xup2_n (by decide), e2', hp]) ?_)
      rw [xup2_s, ← hp, if_pos z]
  suffices H : ∀ f p J1 lv0, p + f = m → a ≤ p → rnd cA C m p = rnd cA C m a → (∀ r, r ≠ tk → J1 r = J r) → (∀ j, j ≠ 2 → J1 tk j = J tk j) → J1 tk 2 = nI p → (∀ z ∈ ([(0, .ref tk)] : List (Nat × Value)), z ∈ lv0) → aw g l mX8_passName 0 lv0 [] (xJ h J1) Q from H (m - a) a J _ (by omega) (Nat.le_refl _) rfl (fun _ _ => rfl) (fun _ _ => rfl) e2 (fun z hz => by simp only [List.mem_cons, List.not_mem_nil, or_false] at hz; rcases hz with rfl <;> exact xlk_mem rfl)
  intro f
  induction f with
  | zero =>
    intro p J1 lv0 hp hqp hr o1 o2 e2' hlv
    refine aw_lv hlv ?_
    refine sX8_passName_0 rfl ?_
    refine jX8_passName_1 (by assumption) ?_
    rw [e2']
    refine sX8_passName_4 rfl ?_
    refine jX8_passName_5 (by assumption) ?_
    rw [o2 1 (by decide), e1]
    refine nX8_passName_8 (by omega) (by omega) (fun _ => ?_) (fun z => absurd z (by omega))
    exact fin p J1 _ hqp (by omega) (by rw [← hr, rnd_stop (Or.inr (by omega))]) o1 o2 e2' (fun z hz => by simp only [List.mem_cons, List.not_mem_nil, or_false] at hz; rcases hz with rfl <;> exact xlk_mem rfl)
  | succ f ih =>
    intro p J1 lv0 hp hqp hr o1 o2 e2' hlv
    refine aw_lv hlv ?_
    have hcp := hC.2.2 p
    have go : cA (C p) = true → aw g l mX8_passName 41 [(0, .ref tk)] [] (xJ h J1) Q := fun z => by
      refine sX8_passName_41 rfl ?_
      refine sX8_passName_42 rfl ?_
      refine jX8_passName_43 (by assumption) ?_
      rw [e2']
      refine nX8_passName_46 ?_
      refine nX8_passName_47 ?_
      refine jX8_passName_48 (by assumption) ?_
      refine sX8_passName_51 ?_
      refine ih (p + 1) _ _ (by omega) (by omega) ?_ (fun r hr' => by rw [xup2_r hr']; exact o1 r hr') (fun j hj => by rw [xup2_n hj]; exact o2 j hj) xup2_s (fun z hz => by simp only [List.mem_cons, List.not_mem_nil, or_false] at hz; rcases hz with rfl <;> exact xlk_mem rfl)
      exact (rnd_step (q := p) (by omega) z).symm.trans hr
    refine sX8_passName_0 rfl ?_
    refine jX8_passName_1 (by assumption) ?_
    rw [e2']
    refine sX8_passName_4 rfl ?_
    refine jX8_passName_5 (by assumption) ?_
    rw [o2 1 (by decide), e1]
    refine nX8_passName_8 (by omega) (by omega) (fun z => absurd z (by omega)) (fun _ => ?_)
    refine sX8_passName_11 rfl ?_
    refine jX8_passName_12 (by assumption) (by assumption) ?_
    refine sX8_passName_15 rfl ?_
    refine jX8_passName_16 (by assumption) ?_
    rw [e2']
    refine jX8_passName_19 (by assumption) (by omega) (by omega) ?_
    refine sX8_passName_20 (Nat.le_of_ble_eq_true rfl) ?_
    rw [o1 tx hne, hb p (by omega)]
    refine c_isLetter8 hcp (fun z => ?_) (fun z1 => ?_)
    · exact sX8_passName_23 (fun _ => go (cA_iff.mpr (Or.inl z))) (fun y => absurd y (by decide))
    refine sX8_passName_23 (fun y => absurd rfl y) (fun _ => ?_)
    refine sX8_passName_26 rfl ?_
    refine jX8_passName_27 (by assumption) (by assumption) ?_
    refine sX8_passName_30 rfl ?_
    refine jX8_passName_31 (by assumption) ?_
    rw [e2']
    refine jX8_passName_34 (by assumption) (by omega) (by omega) ?_
    refine sX8_passName_35 (Nat.le_of_ble_eq_true rfl) ?_
    rw [o1 tx hne, hb p (by omega)]
    refine c_isDigit8 hcp (fun z => ?_) (fun z2 => ?_)
    · exact sX8_passName_38 (fun y => absurd y (by decide)) (fun _ => go (cA_iff.mpr (Or.inr z)))
    refine sX8_passName_38 (fun _ => ?_) (fun y => absurd rfl y)
    exact fin p J1 _ hqp (by omega) (by rw [← hr, rnd_stop (Or.inl (bF cA_iff (by rw [z1, z2]; decide)))]) o1 o2 e2' (fun z hz => by simp only [List.mem_cons, List.not_mem_nil, or_false] at hz; rcases hz with rfl <;> exact xlk_mem rfl)
theorem c_passNumber {a : Nat} (hk : CK h tk tx) (hT : TJ J tk tx C m) (ha : a ≤ m) (e2 : J tk 2 = nI a) (k : ∀ J', (∀ r, r ≠ tk → J' r = J r) → (∀ j, j ≠ 2 → j ≠ 3 → j ≠ 5 → J' tk j = J tk j) → J' tk 2 = nI (nu3 C m a) → J' tk 3 = nI (nuK C m a) → (J' tk 5 = if nuW C m a = true then 1 else 0) → Q none (xJ h J')) : ac g l mX8_passNumber [.ref tk] (xJ h J) Q := by
  refine ac_of (by decide) (Nat.le_of_ble_eq_true rfl) ?_
  have hne := CK_ne hk
  have hk' := hk
  obtain ⟨t1, p1, t2⟩ := hk
  have hC := hT.2.2.1
  have hm := hT.2.1
  have n1 : nu1 C m a ≤ m := nu1_le ha
  have n1' := nu1_ge C m a
  have n2 : nu2 C m a ≤ m := nu2_le hC ha
  have n2' := nu2_ge C m a
  have n3 : nu3 C m a ≤ m := nu3_le hC ha
  have nQ := nuQ_ge C m a
  -- the end: how long it is
  have fin : ∀ (J1 : Nat → Nat → Int32) (lv0 : List (Nat × Value)), (∀ r, r ≠ tk → J1 r = J r) → (∀ j, j ≠ 2 → j ≠ 5 → J1 tk j = J tk j) → J1 tk 2 = nI (nu3 C m a) → (J1 tk 5 = if nuW C m a = true then 1 else 0) → (∀ z ∈ ([(0, .ref tk), (1, .int (nI (nuD C m a))), (2, .int (nI (nuX C m a)))] : List (Nat × Value)), z ∈ lv0) → aw g l mX8_passNumber 148 lv0 [] (xJ h J1) Q := by
    intro J1 lv0 o1 o2 e2' e5 hlv
    refine aw_lv hlv ?_
    have hd : nuD C m a ≤ m := by unfold nuD; split <;> omega
    have hx : nuX C m a ≤ m := by unfold nuX; split <;> omega
    have last : ∀ (t : Int32) (lv1 : List (Nat × Value)), (t = 0 ∧ nuK C m a = 3 ∨ t = 1 ∧ nuK C m a = 1) → (∀ z ∈ ([(0, .ref tk), (3, .int t)] : List (Nat × Value)), z ∈ lv1) → aw g l mX8_passNumber 165 lv1 [] (xJ h J1) Q := by
      intro t lv1 ht hlv1
      refine aw_lv hlv1 ?_
      rcases ht with ⟨rfl, ht⟩ | ⟨rfl, ht⟩
      · refine sX8_passNumber_165 rfl ?_
        refine sX8_passNumber_166 rfl ?_
        refine sX8_passNumber_167 (fun _ => ?_) (fun y => absurd rfl y)
        refine nX8_passNumber_174 ?_
        refine jX8_passNumber_175 (by assumption) ?_
        exact sX8_passNumber_178 (k _ (fun r hr => by rw [xup2_r hr]; exact o1 r hr) (fun j y2 y3 y5 => by rw [xup2_n y3]; exact o2 j y2 y5) (by rw [xup2_n (by decide)]; exact e2') (by rw [xup2_s, ht]) (by rw [xup2_n (by decide)]; exact e5))
      · refine sX8_passNumber_165 rfl ?_
        refine sX8_passNumber_166 rfl ?_
        refine sX8_passNumber_167 (fun y => absurd y (by decide)) (fun _ => ?_)
        refine nX8_passNumber_170 ?_
        refine sX8_passNumber_171 ?_
        refine jX8_passNumber_175 (by assumption) ?_
        exact sX8_passNumber_178 (k _ (fun r hr => by rw [xup2_r hr]; exact o1 r hr) (fun j y2 y3 y5 => by rw [xup2_n y3]; exact o2 j y2 y5) (by rw [xup2_n (by decide)]; exact e2') (by rw [xup2_s, ht]) (by rw [xup2_n (by decide)]; exact e5))
    have long : nuK C m a = 1 → aw g l mX8_passNumber 159 [(0, .ref tk), (1, .int (nI (nuD C m a))), (2, .int (nI (nuX C m a)))] [] (xJ h J1) Q := fun z => by
      refine sX8_passNumber_159 ?_
      refine sX8_passNumber_160 ?_
      refine sX8_passNumber_164 ?_
      exact last 1 _ (Or.inr ⟨rfl, z⟩) (fun z hz => by simp only [List.mem_cons, List.not_mem_nil, or_false] at hz; rcases hz with rfl | rfl <;> exact xlk_mem rfl)
    refine sX8_passNumber_148 rfl ?_
    refine nX8_passNumber_149 ?_
    refine nX8_passNumber_151 (by omega) (by omega) (fun z => long (by unfold nuK; rw [if_pos (Or.inl z)])) (fun z1 => ?_)
    refine sX8_passNumber_154 rfl ?_
    refine nX8_passNumber_155 ?_
    refine nX8_passNumber_156 (by omega) (by omega) (fun z => ?_) (fun z => long (by unfold nuK; rw [if_pos (Or.inr z)]))
    refine sX8_passNumber_163 ?_
    refine sX8_passNumber_164 ?_
    exact last 0 _ (Or.inl ⟨rfl, by unfold nuK; rw [if_neg (by omega)]⟩) (fun z hz => by simp only [List.mem_cons, List.not_mem_nil, or_false] at hz; rcases hz with rfl | rfl <;> exact xlk_mem rfl)
  -- behind the point
  have mid : ∀ (J1 : Nat → Nat → Int32) (lv0 : List (Nat × Value)), (∀ r, r ≠ tk → J1 r = J r) → (∀ j, j ≠ 2 → j ≠ 5 → J1 tk j = J tk j) → J1 tk 2 = nI (nu2 C m a) → (J1 tk 5 = if nuP C m a = true then 0 else 1) → (∀ z ∈ ([(0, .ref tk), (1, .int (nI (nuD C m a))), (2, .int (nI 0))] : List (Nat × Value)), z ∈ lv0) → aw g l mX8_passNumber 63 lv0 [] (xJ h J1) Q := by
    intro J1 lv0 o1 o2 e2' e5 hlv
    refine aw_lv hlv ?_
    have hT1 : TJ J1 tk tx C m := TJ_c (o1 tx hne) (o2 1 (by decide) (by decide)) hT
    have none' : nuE C m a = false → aw g l mX8_passNumber 148 [(0, .ref tk), (1, .int (nI (nuD C m a))), (2, .int (nI 0))] [] (xJ h J1) Q := fun z => by
      have x0 : nuX C m a = 0 := by unfold nuX; rw [if_neg (by rw [z]; decide)]
      refine fin J1 _ o1 o2 (by rw [e2']; unfold nu3; rw [if_neg (by rw [z]; decide)]) ?_ (by rw [x0]; exact (fun z hz => by simp only [List.mem_cons, List.not_mem_nil, or_false] at hz; rcases hz with rfl | rfl | rfl <;> exact xlk_mem rfl))
      rw [e5]
      unfold nuW
      rw [z]
      cases nuP C m a <;> rfl
    have have' : ∀ lv1 : List (Nat × Value), C (nu2 C m a) = 101 → (∀ z ∈ ([(0, .ref tk), (1, .int (nI (nuD C m a))), (2, .int (nI 0)), (3, .int (nI (nuQ C m a)))] : List (Nat × Value)), z ∈ lv1) → aw g l mX8_passNumber 122 lv1 [] (xJ h J1) Q := by
      intro lv1 z hlv1
      refine aw_lv hlv1 ?_
      refine sX8_passNumber_122 rfl ?_
      refine sX8_passNumber_123 rfl ?_
      refine jX8_passNumber_124 (Nat.le_of_ble_eq_true rfl) (by assumption) ?_
      refine c_byteAt8 hk' hT1 (by omega) ?_
      refine sX8_passNumber_127 (Nat.le_of_ble_eq_true rfl) ?_
      refine c_isDigit8 (hC.2.2 _) (fun y => ?_) (fun y => ?_)
      · have yE : nuE C m a = true := nuE_iff.mpr ⟨z, y⟩
        have qm := cD_lt hC y
        refine sX8_passNumber_130 (fun w => absurd w (by decide)) (fun _ => ?_)
        refine sX8_passNumber_133 rfl ?_
        refine sX8_passNumber_134 rfl ?_
        refine jX8_passNumber_135 (by assumption) ?_
        refine sX8_passNumber_138 rfl ?_
        refine jX8_passNumber_139 (Nat.le_of_ble_eq_true rfl) (by assumption) ?_
        refine c_passDigits (q := nuQ C m a) hk' (TJ_c (by rw [xup2_r hne]) (by rw [xup2_n (by decide)]) hT1) (by omega) xup2_s (fun J2 p1' p2' p3' => ?_)
        refine sX8_passNumber_142 ?_
        refine sX8_passNumber_143 rfl ?_
        refine nX8_passNumber_144 ?_
        refine jX8_passNumber_145 (by assumption) (by first | decide | assumption) ?_
        have e3 : rnd cD C m (nuQ C m a) = nu3 C m a := by unfold nu3; rw [if_pos yE]
        have ex : rnd cD C m (nuQ C m a) - nuQ C m a = nuX C m a := by unfold nuX; rw [if_pos yE, e3]
        rw [ex]
        refine fin _ _ (fun r hr => by rw [xup2_r hr, p1' r hr, xup2_r hr]; exact o1 r hr) (fun j y2 y5 => by rw [xup2_n y5, p2' j y2, xup2_n y2]; exact o2 j y2 y5) (by rw [xup2_n (by decide), p3', e3]) ?_ (fun z hz => by simp only [List.mem_cons, List.not_mem_nil, or_false] at hz; rcases hz with rfl | rfl | rfl <;> exact xlk_mem rfl)
        rw [xup2_s]
        unfold nuW
        rw [yE, Bool.not_true, Bool.and_false]
        rfl
      · refine sX8_passNumber_130 (fun _ => ?_) (fun w => absurd rfl w)
        exact aw_lv (fun z hz => by simp only [List.mem_cons, List.not_mem_nil, or_false] at hz; rcases hz with rfl | rfl | rfl <;> exact xlk_mem rfl) (none' (bF nuE_iff (fun w => by rw [y] at w; exact absurd w.2 (by decide))))
    refine sX8_passNumber_63 rfl ?_
    refine sX8_passNumber_64 rfl ?_
    refine jX8_passNumber_65 (by assumption) ?_
    rw [e2']
    refine jX8_passNumber_68 (Nat.le_of_ble_eq_true rfl) (by assumption) ?_
    refine c_byteAt8 hk' hT1 (by omega) ?_
    refine nX8_passNumber_71 ?_
    refine sX8_passNumber_73 (fun z => ?_) (fun z => ?_)
    · exact aw_lv (fun z hz => by simp only [List.mem_cons, List.not_mem_nil, or_false] at hz; rcases hz with rfl | rfl | rfl <;> exact xlk_mem rfl) (none' (bF nuE_iff (fun w => z ((sb_eq (hC.2.2 _) (by decide)).mpr w.1))))
    have z101 := (sb_eq (hC.2.2 _) (by decide)).mp z
    have plus : (C (nu2 C m a + 1) = 43 ∨ C (nu2 C m a + 1) = 45) → aw g l mX8_passNumber 106 [(0, .ref tk), (1, .int (nI (nuD C m a))), (2, .int (nI 0))] [] (xJ h J1) Q := fun y => by
      refine sX8_passNumber_106 rfl ?_
      refine jX8_passNumber_107 (by assumption) ?_
      rw [e2']
      refine nX8_passNumber_110 ?_
      refine nX8_passNumber_111 ?_
      refine sX8_passNumber_112 ?_
      refine sX8_passNumber_121 ?_
      have : nuQ C m a = nu2 C m a + 2 := by unfold nuQ; rw [if_pos y]
      rw [← this]
      exact have' _ z101 (fun z hz => by simp only [List.mem_cons, List.not_mem_nil, or_false] at hz; rcases hz with rfl | rfl | rfl | rfl <;> exact xlk_mem rfl)
    refine sX8_passNumber_76 rfl ?_
    refine sX8_passNumber_77 rfl ?_
    refine jX8_passNumber_78 (by assumption) ?_
    rw [e2']
    refine nX8_passNumber_81 ?_
    refine nX8_passNumber_82 ?_
    refine jX8_passNumber_83 (Nat.le_of_ble_eq_true rfl) (by assumption) ?_
    refine c_byteAt8 hk' hT1 (by omega) ?_
    refine nX8_passNumber_86 ?_
    refine sX8_passNumber_88 (fun y => aw_lv (fun z hz => by simp only [List.mem_cons, List.not_mem_nil, or_false] at hz; rcases hz with rfl | rfl | rfl <;> exact xlk_mem rfl) (plus (Or.inl ((sb_eq (hC.2.2 _) (by decide)).mp y)))) (fun y1 => ?_)
    refine sX8_passNumber_91 rfl ?_
    refine sX8_passNumber_92 rfl ?_
    refine jX8_passNumber_93 (by assumption) ?_
    rw [e2']
    refine nX8_passNumber_96 ?_
    refine nX8_passNumber_97 ?_
    refine jX8_passNumber_98 (Nat.le_of_ble_eq_true rfl) (by assumption) ?_
    refine c_byteAt8 hk' hT1 (by omega) ?_
    refine nX8_passNumber_101 ?_
    refine sX8_passNumber_103 (fun y2 => ?_) (fun y => aw_lv (fun z hz => by simp only [List.mem_cons, List.not_mem_nil, or_false] at hz; rcases hz with rfl | rfl | rfl <;> exact xlk_mem rfl) (plus (Or.inr ((sb_eq (hC.2.2 _) (by decide)).mp y))))
    rw [sb_eq (hC.2.2 _) (by decide)] at y1 y2
    refine sX8_passNumber_115 rfl ?_
    refine jX8_passNumber_116 (by assumption) ?_
    rw [e2']
    refine nX8_passNumber_119 ?_
    refine nX8_passNumber_120 ?_
    refine sX8_passNumber_121 ?_
    have : nuQ C m a = nu2 C m a + 1 := by unfold nuQ; rw [if_neg (by omega)]
    rw [← this]
    exact have' _ z101 (fun z hz => by simp only [List.mem_cons, List.not_mem_nil, or_false] at hz; rcases hz with rfl | rfl | rfl | rfl <;> exact xlk_mem rfl)
  -- ahead of the point
  refine sX8_passNumber_0 rfl ?_
  refine jX8_passNumber_1 (Nat.le_of_ble_eq_true rfl) (by assumption) ?_
  refine c_passDigits hk' hT ha e2 (fun J1 o1 o2 q2 => ?_)
  have f1 : rnd cD C m a = nu1 C m a := rfl
  rw [f1] at q2 ⊢
  refine sX8_passNumber_4 ?_
  refine nX8_passNumber_5 ?_
  refine sX8_passNumber_6 ?_
  refine sX8_passNumber_7 rfl ?_
  refine nX8_passNumber_8 ?_
  refine jX8_passNumber_9 (by assumption) (by first | decide | assumption) ?_
  obtain ⟨J2, hJ2⟩ : ∃ J2, J2 = xup2 J1 tk 5 (nI 1) := ⟨_, rfl⟩
  have b1 : ∀ r, r ≠ tk → J2 r = J r := fun r hr => by rw [hJ2, xup2_r hr]; exact o1 r hr
  have b2 : ∀ j, j ≠ 2 → j ≠ 5 → J2 tk j = J tk j := fun j y2 y5 => by rw [hJ2, xup2_n y5]; exact o2 j y2
  have b3 : J2 tk 2 = nI (nu1 C m a) := by rw [hJ2, xup2_n (by decide)]; exact q2
  have b5 : J2 tk 5 = 1 := by rw [hJ2, xup2_s]; rfl
  have hT2 : TJ J2 tk tx C m := TJ_c (b1 tx hne) (b2 1 (by decide) (by decide)) hT
  rw [← hJ2]
  have no : nuP C m a = false → aw g l mX8_passNumber 63 [(0, .ref tk), (1, .int (nI (nu1 C m a - a))), (2, .int (nI 0))] [] (xJ h J2) Q := fun z => by
    refine mid J2 _ b1 b2 (by rw [b3]; unfold nu2; rw [if_neg (by rw [z]; decide)]) (by rw [b5, z]; rfl) ?_
    have : nuD C m a = nu1 C m a - a := by unfold nuD; rw [if_neg (by rw [z]; decide)]
    rw [this]
    exact (fun z hz => by simp only [List.mem_cons, List.not_mem_nil, or_false] at hz; rcases hz with rfl | rfl | rfl <;> exact xlk_mem rfl)
  refine sX8_passNumber_12 rfl ?_
  refine sX8_passNumber_13 rfl ?_
  refine jX8_passNumber_14 (by assumption) ?_
  rw [b3]
  refine jX8_passNumber_17 (Nat.le_of_ble_eq_true rfl) (by assumption) ?_
  refine c_byteAt8 hk' hT2 (by omega) ?_
  refine nX8_passNumber_20 ?_
  refine sX8_passNumber_22 (fun z => ?_) (fun z => ?_)
  · exact aw_lv (fun z hz => by simp only [List.mem_cons, List.not_mem_nil, or_false] at hz; rcases hz with rfl | rfl | rfl <;> exact xlk_mem rfl) (no (bF nuP_iff (fun w => z ((sb_eq (hC.2.2 _) (by decide)).mpr w.1))))
  refine sX8_passNumber_25 rfl ?_
  refine sX8_passNumber_26 rfl ?_
  refine jX8_passNumber_27 (by assumption) ?_
  rw [b3]
  refine nX8_passNumber_30 ?_
  refine nX8_passNumber_31 ?_
  refine jX8_passNumber_32 (Nat.le_of_ble_eq_true rfl) (by assumption) ?_
  refine c_byteAt8 hk' hT2 (by omega) ?_
  refine sX8_passNumber_35 (Nat.le_of_ble_eq_true rfl) ?_
  refine c_isDigit8 (hC.2.2 _) (fun y => ?_) (fun y => ?_)
  · have yP : nuP C m a = true := nuP_iff.mpr ⟨(sb_eq (hC.2.2 _) (by decide)).mp z, y⟩
    have qm := cD_lt hC y
    refine sX8_passNumber_38 (fun w => absurd w (by decide)) (fun _ => ?_)
    refine sX8_passNumber_41 rfl ?_
    refine sX8_passNumber_42 rfl ?_
    refine jX8_passNumber_43 (by assumption) ?_
    rw [b3]
    refine nX8_passNumber_46 ?_
    refine nX8_passNumber_47 ?_
    refine jX8_passNumber_48 (by assumption) ?_
    refine sX8_passNumber_51 rfl ?_
    refine sX8_passNumber_52 rfl ?_
    refine jX8_passNumber_53 (Nat.le_of_ble_eq_true rfl) (by assumption) ?_
    refine c_passDigits (q := nu1 C m a + 1) hk' (TJ_c (by rw [xup2_r hne]) (by rw [xup2_n (by decide)]) hT2) (by omega) xup2_s (fun J3 c1 c2 c3 => ?_)
    have e3 : rnd cD C m (nu1 C m a + 1) = nu2 C m a := by unfold nu2; rw [if_pos yP]
    rw [e3] at c3 ⊢
    refine nX8_passNumber_56 ?_
    refine sX8_passNumber_57 ?_
    refine sX8_passNumber_58 rfl ?_
    refine nX8_passNumber_59 ?_
    refine jX8_passNumber_60 (by assumption) (by first | decide | assumption) ?_
    have : nuD C m a = nu1 C m a - a + (nu2 C m a - (nu1 C m a + 1)) := by unfold nuD; rw [if_pos yP]
    rw [← this]
    refine mid _ _ (fun r hr => by rw [xup2_r hr, c1 r hr, xup2_r hr]; exact b1 r hr) (fun j y2 y5 => by rw [xup2_n y5, c2 j y2, xup2_n y2]; exact b2 j y2 y5) (by rw [xup2_n (by decide), c3]) ?_ (fun z hz => by simp only [List.mem_cons, List.not_mem_nil, or_false] at hz; rcases hz with rfl | rfl | rfl <;> exact xlk_mem rfl)
    rw [xup2_s, yP]
    rfl
  · refine sX8_passNumber_38 (fun _ => ?_) (fun w => absurd rfl w)
    exact aw_lv (fun z hz => by simp only [List.mem_cons, List.not_mem_nil, or_false] at hz; rcases hz with rfl | rfl | rfl <;> exact xlk_mem rfl) (no (bF nuP_iff (fun w => by rw [y] at w; exact absurd w.2 (by decide))))
theorem c_next {q : Nat} (hk : CK h tk tx) (hT : TJ J tk tx C m) (hq : q ≤ m) (e2 : J tk 2 = nI q) (k : ∀ J', (∀ r, r ≠ tk → J' r = J r) → TJ J' tk tx C m → TS J' tk C m (tkF C m q) → Q none (xJ h J')) : ac g l mX8_next [.ref tk] (xJ h J) Q := by
  refine ac_of (by decide) (Nat.le_of_ble_eq_true rfl) ?_
  have hne := CK_ne hk
  have hk' := hk
  obtain ⟨t1, p1, t2⟩ := hk
  have hC := hT.2.2.1
  have hm := hT.2.1
  have hb := hT.2.2.2
  have e1 := hT.1
  have fin : ∀ (a : Nat) (J1 : Nat → Nat → Int32) (lv0 : List (Nat × Value)), a ≤ m → a = tkF C m q → (∀ r, r ≠ tk → J1 r = J r) → (∀ j, j ≠ 2 → J1 tk j = J tk j) → J1 tk 2 = nI a → (∀ z ∈ ([(0, .ref tk)] : List (Nat × Value)), z ∈ lv0) → aw g l mX8_next 39 lv0 [] (xJ h J1) Q := by
    intro a J1 lv0 ham ha o1 o2 e2' hlv
    refine aw_lv hlv ?_
    rw [← ha] at k
    refine sX8_next_39 rfl ?_
    refine sX8_next_40 rfl ?_
    refine jX8_next_41 (by assumption) ?_
    rw [e2']
    refine jX8_next_44 (by assumption) ?_
    obtain ⟨J2, hJ2⟩ : ∃ J2, J2 = xup2 J1 tk 4 (nI a) := ⟨_, rfl⟩
    have b1 : ∀ r, r ≠ tk → J2 r = J r := fun r hr => by rw [hJ2, xup2_r hr]; exact o1 r hr
    have b2 : ∀ j, j ≠ 2 → j ≠ 4 → J2 tk j = J tk j := fun j y2 y5 => by rw [hJ2, xup2_n y5]; exact o2 j y2
    have b3 : J2 tk 2 = nI a := by rw [hJ2, xup2_n (by decide)]; exact e2'
    have b4 : J2 tk 4 = nI a := by rw [hJ2, xup2_s]
    have hT2 : TJ J2 tk tx C m := TJ_c (b1 tx hne) (b2 1 (by decide) (by decide)) hT
    rw [← hJ2]
    refine sX8_next_47 rfl ?_
    refine sX8_next_48 rfl ?_
    refine jX8_next_49 (by assumption) ?_
    rw [b3]
    refine jX8_next_52 (Nat.le_of_ble_eq_true rfl) (by assumption) ?_
    refine c_byteAt8 hk' hT2 (by omega) ?_
    refine sX8_next_55 ?_
    refine sX8_next_56 rfl ?_
    refine jX8_next_57 (by assumption) ?_
    rw [b3]
    refine sX8_next_60 rfl ?_
    refine jX8_next_61 (by assumption) ?_
    rw [hT2.1]
    refine nX8_next_64 (by omega) (by omega) (fun z => ?_) (fun z => ?_)
    · refine sX8_next_75 rfl ?_
      refine sX8_next_76 (Nat.le_of_ble_eq_true rfl) ?_
      refine c_isLetter8 (hC.2.2 _) (fun y => ?_) (fun y1 => ?_)
      · refine sX8_next_79 (fun w => absurd w (by decide)) (fun _ => ?_)
        refine sX8_next_82 rfl ?_
        refine jX8_next_83 (Nat.le_of_ble_eq_true rfl) (by assumption) ?_
        refine c_passName hk' hT2 (by omega) b3 b4 (fun J3 c1 c2 c3 c4 => ?_)
        refine sX8_next_86 ?_
        refine sX8_next_129 (k J3 (fun r hr => by rw [c1 r hr]; exact b1 r hr) (TJ_c (c1 tx hne) (c2 1 (by decide) (by decide)) hT2) ⟨by rw [c2 4 (by decide) (by decide)]; exact b4, ?_, ?_, ?_⟩)
        · rw [c4]; unfold tkK; rw [if_neg (show ¬ m ≤ a by omega), if_pos y]
        · rw [c3]; unfold tkT; rw [if_neg (by omega), if_pos y]
        · intro w; unfold tkK at w; rw [if_neg (by omega), if_pos y] at w; exact absurd w (by split <;> decide)
      refine sX8_next_79 (fun _ => ?_) (fun w => absurd rfl w)
      refine sX8_next_89 rfl ?_
      refine sX8_next_90 (Nat.le_of_ble_eq_true rfl) ?_
      refine c_isDigit8 (hC.2.2 _) (fun y => ?_) (fun y2 => ?_)
      · refine sX8_next_93 (fun w => absurd w (by decide)) (fun _ => ?_)
        refine sX8_next_96 rfl ?_
        refine jX8_next_97 (Nat.le_of_ble_eq_true rfl) (by assumption) ?_
        refine c_passNumber hk' hT2 (by omega) b3 (fun J3 c1 c2 c3 c4 c5 => ?_)
        refine sX8_next_100 ?_
        have y1' : ¬ cL (C a) = true := by rw [y1]; decide
        refine sX8_next_129 (k J3 (fun r hr => by rw [c1 r hr]; exact b1 r hr) (TJ_c (c1 tx hne) (c2 1 (by decide) (by decide) (by decide)) hT2) ⟨by rw [c2 4 (by decide) (by decide) (by decide)]; exact b4, ?_, ?_, fun _ => c5⟩)
        · rw [c4]; unfold tkK; rw [if_neg (by omega), if_neg y1', if_pos y]
        · rw [c3]; unfold tkT; rw [if_neg (by omega), if_neg y1', if_pos y]
      refine sX8_next_93 (fun _ => ?_) (fun w => absurd rfl w)
      have y1' : ¬ cL (C a) = true := by rw [y1]; decide
      have y2' : ¬ cD (C a) = true := by rw [y2]; decide
      have eT : tkT C m a = a + 1 := by unfold tkT; rw [if_neg (by omega), if_neg y1', if_neg y2']
      have last : ∀ (w : Nat) (lv1 : List (Nat × Value)), tkK C m a = w → w ≠ 3 → (∀ z ∈ ([(0, .ref tk)] : List (Nat × Value)), z ∈ lv1) → aw g l mX8_next 116 lv1 [.int (nI w), .ref tk] (xJ h J2) Q := by
        intro w lv1 hw h3 hlv1
        refine aw_lv hlv1 ?_
        refine jX8_next_116 (by assumption) ?_
        refine sX8_next_119 rfl ?_
        refine sX8_next_120 rfl ?_
        refine jX8_next_121 (by assumption) ?_
        rw [xup2_n (by decide), b3]
        refine nX8_next_124 ?_
        refine nX8_next_125 ?_
        refine jX8_next_126 (by assumption) ?_
        refine sX8_next_129 (k _ (fun r hr => by rw [xup2_r hr, xup2_r hr]; exact b1 r hr) (TJ_c (by rw [xup2_r hne, xup2_r hne]) (by rw [xup2_n (by decide), xup2_n (by decide)]) hT2) ⟨?_, ?_, ?_, fun y => absurd (hw ▸ y) h3⟩)
        · rw [xup2_n (by decide), xup2_n (by decide)]; exact b4
        · rw [xup2_n (by decide), xup2_s, hw]
        · rw [xup2_s, eT]
      refine sX8_next_103 rfl ?_
      refine sX8_next_104 rfl ?_
      refine sX8_next_105 (Nat.le_of_ble_eq_true rfl) ?_
      refine c_isSign8 (hC.2.2 _) (fun y => ?_) (fun y => ?_)
      · refine sX8_next_108 (fun w => absurd w (by decide)) (fun _ => ?_)
        refine sX8_next_111 rfl ?_
        refine sX8_next_112 ?_
        have := cS_gt y
        rw [sb_small (by omega)]
        exact last (C a) _ (by unfold tkK; rw [if_neg (by omega), if_neg y1', if_neg y2', if_pos y]) (by omega) (fun z hz => by simp only [List.mem_cons, List.not_mem_nil, or_false] at hz; rcases hz with rfl <;> exact xlk_mem rfl)
      · refine sX8_next_108 (fun _ => ?_) (fun w => absurd rfl w)
        refine nX8_next_115 ?_
        exact last 1 _ (by unfold tkK; rw [if_neg (by omega), if_neg y1', if_neg y2', if_neg (by rw [y]; decide)]) (by decide) (fun z hz => by simp only [List.mem_cons, List.not_mem_nil, or_false] at hz; rcases hz with rfl <;> exact xlk_mem rfl)
    · refine sX8_next_67 rfl ?_
      refine nX8_next_68 ?_
      refine jX8_next_69 (by assumption) ?_
      refine sX8_next_72 ?_
      refine sX8_next_129 (k _ (fun r hr => by rw [xup2_r hr]; exact b1 r hr) (TJ_c (by rw [xup2_r hne]) (by rw [xup2_n (by decide)]) hT2) ⟨?_, ?_, ?_, fun y => ?_⟩)
      · rw [xup2_n (by decide)]; exact b4
      · rw [xup2_s, tkK_0 (by omega)]
      · rw [xup2_n (by decide), b3]; unfold tkT; rw [if_pos (by omega)]
      · rw [tkK_0 (by omega)] at y; exact absurd y (by decide)
  suffices H : ∀ f p J1 lv0, p + f = m → q ≤ p → rnd cBl C m p = rnd cBl C m q → (∀ r, r ≠ tk → J1 r = J r) → (∀ j, j ≠ 2 → J1 tk j = J tk j) → J1 tk 2 = nI p → (∀ z ∈ ([(0, .ref tk)] : List (Nat × Value)), z ∈ lv0) → aw g l mX8_next 0 lv0 [] (xJ h J1) Q from H (m - q) q J _ (by omega) (Nat.le_refl _) rfl (fun _ _ => rfl) (fun _ _ => rfl) e2 (fun z hz => by simp only [List.mem_cons, List.not_mem_nil, or_false] at hz; rcases hz with rfl <;> exact xlk_mem rfl)
  intro f
  induction f with
  | zero =>
    intro p J1 lv0 hp hqp hr o1 o2 e2' hlv
    refine aw_lv hlv ?_
    refine sX8_next_0 rfl ?_
    refine jX8_next_1 (by assumption) ?_
    rw [e2']
    refine sX8_next_4 rfl ?_
    refine jX8_next_5 (by assumption) ?_
    rw [o2 1 (by decide), e1]
    refine nX8_next_8 (by omega) (by omega) (fun _ => ?_) (fun z => absurd z (by omega))
    exact fin p J1 _ (by omega) (by unfold tkF; rw [← hr, rnd_stop (Or.inr (by omega))]) o1 o2 e2' (fun z hz => by simp only [List.mem_cons, List.not_mem_nil, or_false] at hz; rcases hz with rfl <;> exact xlk_mem rfl)
  | succ f ih =>
    intro p J1 lv0 hp hqp hr o1 o2 e2' hlv
    refine aw_lv hlv ?_
    refine sX8_next_0 rfl ?_
    refine jX8_next_1 (by assumption) ?_
    rw [e2']
    refine sX8_next_4 rfl ?_
    refine jX8_next_5 (by assumption) ?_
    rw [o2 1 (by decide), e1]
    refine nX8_next_8 (by omega) (by omega) (fun z => absurd z (by omega)) (fun _ => ?_)
    refine sX8_next_11 rfl ?_
    refine jX8_next_12 (by assumption) (by assumption) ?_
    refine sX8_next_15 rfl ?_
    refine jX8_next_16 (by assumption) ?_
    rw [e2']
    refine jX8_next_19 (by assumption) (by omega) (by omega) ?_
    refine sX8_next_20 (Nat.le_of_ble_eq_true rfl) ?_
    rw [o1 tx hne, hb p (by omega)]
    refine c_isBlank8 (hC.2.2 p) (fun z => ?_) (fun z => ?_)
    · refine sX8_next_23 (fun w => absurd w (by decide)) (fun _ => ?_)
      refine sX8_next_26 rfl ?_
      refine sX8_next_27 rfl ?_
      refine jX8_next_28 (by assumption) ?_
      rw [e2']
      refine nX8_next_31 ?_
      refine nX8_next_32 ?_
      refine jX8_next_33 (by assumption) ?_
      refine sX8_next_36 ?_
      refine ih (p + 1) _ _ (by omega) (by omega) ?_ (fun r hr' => by rw [xup2_r hr']; exact o1 r hr') (fun j hj => by rw [xup2_n hj]; exact o2 j hj) xup2_s (fun z hz => by simp only [List.mem_cons, List.not_mem_nil, or_false] at hz; rcases hz with rfl <;> exact xlk_mem rfl)
      exact (rnd_step (q := p) (by omega) z).symm.trans hr
    · refine sX8_next_23 (fun _ => ?_) (fun w => absurd rfl w)
      exact fin p J1 _ (by omega) (by unfold tkF; rw [← hr, rnd_stop (Or.inl z)]) o1 o2 e2' (fun z hz => by simp only [List.mem_cons, List.not_mem_nil, or_false] at hz; rcases hz with rfl <;> exact xlk_mem rfl)
theorem c_begin8 {a : Nat} (t1 : (xT h tk).1 = 8) (t2 : xT h tx = (101, 10240)) (hm : m ≤ 10240) (ha : a ≤ m) (hC : tOk C m) (hb : ∀ q, q < m → J tx q = sb (C q)) (k : ∀ J', (∀ r, r ≠ tk → J' r = J r) → TJ J' tk tx C m → TS J' tk C m (tkF C m a) → Q none (xJ (xsP h tk 0 (some tx)) J')) : ac g l mX8_begin [.ref tk, .ref tx, .int (nI a), .int (nI m)] (xJ h J) Q := by
  refine ac_of (by decide) (Nat.le_of_ble_eq_true rfl) ?_
  have u1 : (xT (xsP h tk 0 (some tx)) tk).1 = 8 := t1
  have u2 : xT (xsP h tk 0 (some tx)) tx = (101, 10240) := t2
  have hk : CK (xsP h tk 0 (some tx)) tk tx := ⟨t1, by unfold xP xsP xup2; simp, t2⟩
  have hne := CK_ne hk
  refine sX8_begin_0 rfl ?_
  refine sX8_begin_1 rfl ?_
  refine sX8_begin_2 (by assumption) ?_
  show aw g l mX8_begin 5 _ [] (xJ (xsP h tk 0 (some tx)) J) Q
  refine sX8_begin_5 rfl ?_
  refine nX8_begin_6 ?_
  refine sX8_begin_7 rfl ?_
  refine sX8_begin_8 rfl ?_
  refine jX8_begin_9B u2 ?_
  refine mX8_begin_10n (Nat.le_of_ble_eq_true rfl) (by omega) (by omega) ?_
  rw [Nat.min_eq_left hm]
  refine mX8_begin_13n (Nat.le_of_ble_eq_true rfl) (by omega) (by omega) ?_
  rw [Nat.max_eq_right (Nat.zero_le _)]
  refine jX8_begin_16 (by assumption) ?_
  refine sX8_begin_19 rfl ?_
  refine nX8_begin_20 ?_
  refine sX8_begin_21 rfl ?_
  refine sX8_begin_22 rfl ?_
  refine jX8_begin_23 (by assumption) ?_
  rw [xup2_s]
  refine mX8_begin_26n (Nat.le_of_ble_eq_true rfl) (by omega) (by omega) ?_
  rw [Nat.min_eq_left ha]
  refine mX8_begin_29n (Nat.le_of_ble_eq_true rfl) (by omega) (by omega) ?_
  rw [Nat.max_eq_right (Nat.zero_le _)]
  refine jX8_begin_32 (by assumption) ?_
  refine sX8_begin_35 rfl ?_
  refine jX8_begin_36 (Nat.le_of_ble_eq_true rfl) (by assumption) ?_
  refine c_next hk ⟨by rw [xup2_n (by decide), xup2_s], hm, hC, fun q hq => by rw [xup2_r hne, xup2_r hne]; exact hb q hq⟩ ha xup2_s (fun J' o hT hS => ?_)
  exact sX8_begin_39 (k J' (fun r hr => by rw [o r hr, xup2_r hr, xup2_r hr]) hT hS)
end Lex1
