/-! ===== bytes and texts ===== -/
def sb (v : Nat) : Int32 := (nI v).toInt8.toInt32
theorem sb_toInt : ∀ v, v < 256 → (sb v).toInt = if v < 128 then (v : Int) else (v : Int) - 256 := by decide +kernel
theorem sb_small {v : Nat} (h : v < 128) : sb v = nI v := by
  apply Int32.toInt_inj.mp
  rw [sb_toInt v (by omega), if_pos h, nI_toInt (by omega)]
theorem sb_0 : sb 0 = nI 0 := sb_small (by omega)
theorem sb_lt {c k : Nat} (hc : c < 256) (hk : k < 128) : sb c < nI k ↔ c < k ∨ 128 ≤ c := by
  rw [Int32.lt_iff_toInt_lt, sb_toInt c hc, nI_toInt (by omega)]
  by_cases z : c < 128
  · rw [if_pos z]; omega
  · rw [if_neg z]; omega
theorem sb_gt {c k : Nat} (hc : c < 256) (hk : k < 128) : nI k < sb c ↔ k < c ∧ c < 128 := by
  rw [Int32.lt_iff_toInt_lt, sb_toInt c hc, nI_toInt (by omega)]
  by_cases z : c < 128
  · rw [if_pos z]; omega
  · rw [if_neg z]; omega
theorem sb_le {c k : Nat} (hc : c < 256) (hk : k < 128) : sb c ≤ nI k ↔ c ≤ k ∨ 128 ≤ c := by
  rw [Int32.le_iff_toInt_le, sb_toInt c hc, nI_toInt (by omega)]
  by_cases z : c < 128
  · rw [if_pos z]; omega
  · rw [if_neg z]; omega
theorem sb_eq {c k : Nat} (hc : c < 256) (hk : k < 128) : sb c = nI k ↔ c = k := by
  rw [← Int32.toInt_inj, sb_toInt c hc, nI_toInt (by omega)]
  by_cases z : c < 128
  · rw [if_pos z]; omega
  · rw [if_neg z]; omega
theorem sb_inj {c d : Nat} (hc : c < 256) (hd : d < 256) : sb c = sb d ↔ c = d := by
  rw [← Int32.toInt_inj, sb_toInt c hc, sb_toInt d hd]
  by_cases z : c < 128 <;> by_cases y : d < 128
  · rw [if_pos z, if_pos y]; omega
  · rw [if_pos z, if_neg y]; omega
  · rw [if_neg z, if_pos y]; omega
  · rw [if_neg z, if_neg y]; omega
def cD (c : Nat) : Bool := decide (48 ≤ c) && decide (c ≤ 57)
def cL (c : Nat) : Bool := (decide (97 ≤ c) && decide (c ≤ 122)) || (decide (65 ≤ c) && decide (c ≤ 90)) || decide (c = 95)
def cBl (c : Nat) : Bool := decide (c = 32) || decide (c = 9) || decide (c = 13)
def cS (c : Nat) : Bool := decide (c = 33) || decide (c = 40) || decide (c = 41) || decide (c = 42) || decide (c = 43) || decide (c = 45) || decide (c = 47) || decide (c = 62) || decide (c = 94) || decide (c = 124)
def cA (c : Nat) : Bool := cL c || cD c
theorem cD_iff {c : Nat} : cD c = true ↔ 48 ≤ c ∧ c ≤ 57 := by unfold cD; simp
theorem cL_iff {c : Nat} : cL c = true ↔ (97 ≤ c ∧ c ≤ 122) ∨ (65 ≤ c ∧ c ≤ 90) ∨ c = 95 := by unfold cL; simp [or_assoc]
theorem cBl_iff {c : Nat} : cBl c = true ↔ c = 32 ∨ c = 9 ∨ c = 13 := by unfold cBl; simp [or_assoc]
theorem cA_iff {c : Nat} : cA c = true ↔ cL c = true ∨ cD c = true := by unfold cA; simp
theorem cS_iff {c : Nat} : cS c = true ↔ c = 33 ∨ c = 40 ∨ c = 41 ∨ c = 42 ∨ c = 43 ∨ c = 45 ∨ c = 47 ∨ c = 62 ∨ c = 94 ∨ c = 124 := by unfold cS; simp [or_assoc]
theorem bF {x : Bool} {p : Prop} (h : x = true ↔ p) (hn : ¬ p) : x = false := by
  cases x
  · rfl
  · exact absurd (h.mp rfl) hn
theorem bT {x : Bool} {p : Prop} (h : x = true ↔ p) (hf : x = false) : ¬ p := fun z => by rw [h.mpr z] at hf; cases hf
/-- a run of bytes -/
def rn (P : Nat → Bool) (C : Nat → Nat) : Nat → Nat → Nat
  | 0, q => q
  | f + 1, q => if P (C q) = true then rn P C f (q + 1) else q
def rnd (P : Nat → Bool) (C : Nat → Nat) (m q : Nat) : Nat := rn P C (m - q) q
theorem rnd_step {P : Nat → Bool} {C : Nat → Nat} {m q : Nat} (hq : q < m) (h : P (C q) = true) : rnd P C m q = rnd P C m (q + 1) := by
  unfold rnd
  rw [show m - q = (m - (q + 1)) + 1 by omega]
  show (if P (C q) = true then rn P C (m - (q + 1)) (q + 1) else q) = _
  rw [if_pos h]
theorem rnd_stop {P : Nat → Bool} {C : Nat → Nat} {m q : Nat} (h : P (C q) = false ∨ m ≤ q) : rnd P C m q = q := by
  unfold rnd
  cases e : m - q with
  | zero => rfl
  | succ f =>
    show (if P (C q) = true then rn P C f (q + 1) else q) = q
    rcases h with h | h
    · rw [if_neg (by rw [h]; decide)]
    · omega
theorem rn_ge (P : Nat → Bool) (C : Nat → Nat) : ∀ f q, q ≤ rn P C f q ∧ rn P C f q ≤ q + f
  | 0, q => ⟨Nat.le_refl _, Nat.le_refl _⟩
  | f + 1, q => by
    show q ≤ (if P (C q) = true then rn P C f (q + 1) else q) ∧ (if P (C q) = true then rn P C f (q + 1) else q) ≤ q + (f + 1)
    have := rn_ge P C f (q + 1)
    by_cases h : P (C q) = true
    · rw [if_pos h]; omega
    · rw [if_neg h]; omega
theorem rnd_ge (P : Nat → Bool) (C : Nat → Nat) (m q : Nat) : q ≤ rnd P C m q := (rn_ge P C (m - q) q).1
theorem rnd_le {P : Nat → Bool} {C : Nat → Nat} {m q : Nat} (h : q ≤ m) : rnd P C m q ≤ m := by
  have := (rn_ge P C (m - q) q).2
  unfold rnd
  omega
theorem rn_all (P : Nat → Bool) (C : Nat → Nat) : ∀ f q p, q ≤ p → p < rn P C f q → P (C p) = true
  | 0, q, p, h1, h2 => by have : p < q := h2; omega
  | f + 1, q, p, h1, h2 => by
    have h3 : p < (if P (C q) = true then rn P C f (q + 1) else q) := h2
    by_cases h : P (C q) = true
    · rw [if_pos h] at h3
      rcases Nat.eq_or_lt_of_le h1 with e | e
      · rw [← e]; exact h
      · exact rn_all P C f (q + 1) p e h3
    · rw [if_neg h] at h3; omega
theorem rnd_all {P : Nat → Bool} {C : Nat → Nat} {m q p : Nat} (h1 : q ≤ p) (h2 : p < rnd P C m q) : P (C p) = true := rn_all P C _ q p h1 h2
theorem rn_end (P : Nat → Bool) (C : Nat → Nat) : ∀ f q, rn P C f q < q + f → P (C (rn P C f q)) = false
  | 0, q, h => by have : q < q + 0 := h; omega
  | f + 1, q, h => by
    have h3 : (if P (C q) = true then rn P C f (q + 1) else q) < q + (f + 1) := h
    show P (C (if P (C q) = true then rn P C f (q + 1) else q)) = false
    by_cases hh : P (C q) = true
    · rw [if_pos hh] at h3 ⊢; exact rn_end P C f (q + 1) (by omega)
    · rw [if_neg hh]; cases e : P (C q) with | false => rfl | true => exact absurd e hh
/-- a text: bytes, 0 from m on -/
def tOk (C : Nat → Nat) (m : Nat) : Prop := m ≤ 90000 ∧ (∀ q, m ≤ q → C q = 0) ∧ ∀ q, C q < 256
theorem rnd_end {P : Nat → Bool} {C : Nat → Nat} {m q : Nat} (hC : tOk C m) (hP : P 0 = false) : P (C (rnd P C m q)) = false := by
  rcases Nat.lt_or_ge (rnd P C m q) m with h | h
  · refine rn_end P C (m - q) q ?_
    have : rn P C (m - q) q < m := h
    have := (rn_ge P C (m - q) q).1
    omega
  · rw [hC.2.1 _ h]; exact hP
/-- tokens: where one begins, of what kind it is, where it ends -/
def tkF (C : Nat → Nat) (m q : Nat) : Nat := rnd cBl C m q
def nu1 (C : Nat → Nat) (m a : Nat) : Nat := rnd cD C m a
def nuP (C : Nat → Nat) (m a : Nat) : Bool := decide (C (nu1 C m a) = 46) && cD (C (nu1 C m a + 1))
theorem nuP_iff {C : Nat → Nat} {m a : Nat} : nuP C m a = true ↔ C (nu1 C m a) = 46 ∧ cD (C (nu1 C m a + 1)) = true := by unfold nuP; simp
def nu2 (C : Nat → Nat) (m a : Nat) : Nat := if nuP C m a = true then rnd cD C m (nu1 C m a + 1) else nu1 C m a
def nuD (C : Nat → Nat) (m a : Nat) : Nat := if nuP C m a = true then (nu1 C m a - a) + (nu2 C m a - (nu1 C m a + 1)) else nu1 C m a - a
def nuQ (C : Nat → Nat) (m a : Nat) : Nat := if C (nu2 C m a + 1) = 43 ∨ C (nu2 C m a + 1) = 45 then nu2 C m a + 2 else nu2 C m a + 1
def nuE (C : Nat → Nat) (m a : Nat) : Bool := decide (C (nu2 C m a) = 101) && cD (C (nuQ C m a))
theorem nuE_iff {C : Nat → Nat} {m a : Nat} : nuE C m a = true ↔ C (nu2 C m a) = 101 ∧ cD (C (nuQ C m a)) = true := by unfold nuE; simp
def nu3 (C : Nat → Nat) (m a : Nat) : Nat := if nuE C m a = true then rnd cD C m (nuQ C m a) else nu2 C m a
def nuX (C : Nat → Nat) (m a : Nat) : Nat := if nuE C m a = true then nu3 C m a - nuQ C m a else 0
def nuK (C : Nat → Nat) (m a : Nat) : Nat := if 60 < nuD C m a ∨ 3 < nuX C m a then 1 else 3
def tkK (C : Nat → Nat) (m a : Nat) : Nat := if m ≤ a then 0 else if cL (C a) = true then (if 24 < rnd cA C m a - a then 1 else 2) else if cD (C a) = true then nuK C m a else if cS (C a) = true then C a else 1
def tkT (C : Nat → Nat) (m a : Nat) : Nat := if m ≤ a then a else if cL (C a) = true then rnd cA C m a else if cD (C a) = true then nu3 C m a else a + 1
section Text1
variable {g : xG} {l : Launch} {h : xH} {J : Nat → Nat → Int32} {Q : Option Value → xH → Prop}
theorem c_isBlank8 {c : Nat} (hc : c < 256) (k1 : cBl c = true → Q (some (.int 1)) h) (k0 : cBl c = false → Q (some (.int 0)) h) : ac g l mX8_isBlank [.int (sb c)] h Q := by
  refine ac_of (by decide) (Nat.le_of_ble_eq_true rfl) ?_
  have yes : cBl c = true → aw g l mX8_isBlank 18 (lv_args 0 [.int (sb c)]) [] h Q := fun z => by
    refine sX8_isBlank_18 ?_
    refine sX8_isBlank_19 ?_
    exact sX8_isBlank_23 (Or.inr rfl) (k1 z)
  refine sX8_isBlank_0 rfl ?_
  refine nX8_isBlank_1 ?_
  refine sX8_isBlank_3 (fun z => yes (cBl_iff.mpr (Or.inl ((sb_eq hc (by decide)).mp z)))) (fun z1 => ?_)
  refine sX8_isBlank_6 rfl ?_
  refine nX8_isBlank_7 ?_
  refine sX8_isBlank_9 (fun z => yes (cBl_iff.mpr (Or.inr (Or.inl ((sb_eq hc (by decide)).mp z))))) (fun z2 => ?_)
  refine sX8_isBlank_12 rfl ?_
  refine nX8_isBlank_13 ?_
  refine sX8_isBlank_15 (fun z3 => ?_) (fun z => yes (cBl_iff.mpr (Or.inr (Or.inr ((sb_eq hc (by decide)).mp z)))))
  refine sX8_isBlank_22 ?_
  refine sX8_isBlank_23 (Or.inl rfl) (k0 (bF cBl_iff ?_))
  rw [sb_eq hc (by decide)] at z1 z2 z3
  omega
theorem c_isDigit8 {c : Nat} (hc : c < 256) (k1 : cD c = true → Q (some (.int 1)) h) (k0 : cD c = false → Q (some (.int 0)) h) : ac g l mX8_isDigit [.int (sb c)] h Q := by
  refine ac_of (by decide) (Nat.le_of_ble_eq_true rfl) ?_
  have no : cD c = false → aw g l mX8_isDigit 16 (lv_args 0 [.int (sb c)]) [] h Q := fun z => by
    refine sX8_isDigit_16 ?_
    exact sX8_isDigit_17 (Or.inl rfl) (k0 z)
  refine sX8_isDigit_0 rfl ?_
  refine nX8_isDigit_1 ?_
  refine sX8_isDigit_3 (fun z => no (bF cD_iff (by rw [sb_lt hc (by decide)] at z; omega))) (fun z1 => ?_)
  refine sX8_isDigit_6 rfl ?_
  refine nX8_isDigit_7 ?_
  refine sX8_isDigit_9 (fun z => no (bF cD_iff (by rw [sb_gt hc (by decide)] at z; omega))) (fun z2 => ?_)
  refine sX8_isDigit_12 ?_
  refine sX8_isDigit_13 ?_
  refine sX8_isDigit_17 (Or.inr rfl) (k1 (cD_iff.mpr ?_))
  rw [sb_lt hc (by decide)] at z1
  rw [sb_gt hc (by decide)] at z2
  omega
theorem c_isLetter8 {c : Nat} (hc : c < 256) (k1 : cL c = true → Q (some (.int 1)) h) (k0 : cL c = false → Q (some (.int 0)) h) : ac g l mX8_isLetter [.int (sb c)] h Q := by
  refine ac_of (by decide) (Nat.le_of_ble_eq_true rfl) ?_
  have yes : cL c = true → aw g l mX8_isLetter 30 (lv_args 0 [.int (sb c)]) [] h Q := fun z => by
    refine sX8_isLetter_30 ?_
    refine sX8_isLetter_31 ?_
    exact sX8_isLetter_35 (Or.inr rfl) (k1 z)
  have r24 : ¬ (97 ≤ c ∧ c ≤ 122) → ¬ (65 ≤ c ∧ c ≤ 90) → aw g l mX8_isLetter 24 (lv_args 0 [.int (sb c)]) [] h Q := fun y1 y2 => by
    refine sX8_isLetter_24 rfl ?_
    refine nX8_isLetter_25 ?_
    refine sX8_isLetter_27 (fun z => ?_) (fun z => yes (cL_iff.mpr (Or.inr (Or.inr ((sb_eq hc (by decide)).mp z)))))
    refine sX8_isLetter_34 ?_
    refine sX8_isLetter_35 (Or.inl rfl) (k0 (bF cL_iff ?_))
    rw [sb_eq hc (by decide)] at z
    omega
  have r12 : ¬ (97 ≤ c ∧ c ≤ 122) → aw g l mX8_isLetter 12 (lv_args 0 [.int (sb c)]) [] h Q := fun y1 => by
    refine sX8_isLetter_12 rfl ?_
    refine nX8_isLetter_13 ?_
    refine sX8_isLetter_15 (fun z => r24 y1 (by rw [sb_lt hc (by decide)] at z; omega)) (fun z1 => ?_)
    refine sX8_isLetter_18 rfl ?_
    refine nX8_isLetter_19 ?_
    refine sX8_isLetter_21 (fun z => yes (cL_iff.mpr (Or.inr (Or.inl ?_)))) (fun z => r24 y1 ?_)
    · rw [sb_lt hc (by decide)] at z1; rw [sb_le hc (by decide)] at z; omega
    · rw [sb_lt hc (by decide)] at z1; rw [sb_le hc (by decide)] at z; omega
  refine sX8_isLetter_0 rfl ?_
  refine nX8_isLetter_1 ?_
  refine sX8_isLetter_3 (fun z => r12 (by rw [sb_lt hc (by decide)] at z; omega)) (fun z1 => ?_)
  refine sX8_isLetter_6 rfl ?_
  refine nX8_isLetter_7 ?_
  refine sX8_isLetter_9 (fun z => yes (cL_iff.mpr (Or.inl ?_))) (fun z => r12 ?_)
  · rw [sb_lt hc (by decide)] at z1; rw [sb_le hc (by decide)] at z; omega
  · rw [sb_lt hc (by decide)] at z1; rw [sb_le hc (by decide)] at z; omega
theorem wSign : ∀ c, c < 256 → wX8_isSign_1 (sb c) = if cS c = true then 92 else 94 := by decide +kernel
theorem c_isSign8 {c : Nat} (hc : c < 256) (k1 : cS c = true → Q (some (.int 1)) h) (k0 : cS c = false → Q (some (.int 0)) h) : ac g l mX8_isSign [.int (sb c)] h Q := by
  refine ac_of (by decide) (Nat.le_of_ble_eq_true rfl) ?_
  refine sX8_isSign_0 rfl ?_
  refine sX8_isSign_1 ?_
  rw [wSign c hc]
  cases e : cS c with
  | true =>
    rw [if_pos rfl]
    refine sX8_isSign_92 ?_
    exact sX8_isSign_93 (Or.inr rfl) (k1 e)
  | false =>
    rw [if_neg (by decide)]
    refine sX8_isSign_94 ?_
    exact sX8_isSign_95 (Or.inl rfl) (k0 e)
theorem c_isDigit11 {c : Nat} (hc : c < 256) (k1 : cD c = true → Q (some (.int 1)) h) (k0 : cD c = false → Q (some (.int 0)) h) : ac g l mX11_isDigit [.int (nI c)] h Q := by
  refine ac_of (by decide) (Nat.le_of_ble_eq_true rfl) ?_
  have no : cD c = false → aw g l mX11_isDigit 16 (lv_args 0 [.int (nI c)]) [] h Q := fun z => by
    refine sX11_isDigit_16 ?_
    exact sX11_isDigit_17 (Or.inl rfl) (k0 z)
  refine sX11_isDigit_0 rfl ?_
  refine nX11_isDigit_1 ?_
  refine nX11_isDigit_3 (by omega) (by omega) (fun z => no (bF cD_iff (by omega))) (fun z1 => ?_)
  refine sX11_isDigit_6 rfl ?_
  refine nX11_isDigit_7 ?_
  refine nX11_isDigit_9 (by omega) (by omega) (fun z => no (bF cD_iff (by omega))) (fun z2 => ?_)
  refine sX11_isDigit_12 ?_
  refine sX11_isDigit_13 ?_
  exact sX11_isDigit_17 (Or.inr rfl) (k1 (cD_iff.mpr (by omega)))
theorem c_isLetter11 {c : Nat} (hc : c < 256) (k1 : cL c = true → Q (some (.int 1)) h) (k0 : cL c = false → Q (some (.int 0)) h) : ac g l mX11_isLetter [.int (nI c)] h Q := by
  refine ac_of (by decide) (Nat.le_of_ble_eq_true rfl) ?_
  have yes : cL c = true → aw g l mX11_isLetter 30 (lv_args 0 [.int (nI c)]) [] h Q := fun z => by
    refine sX11_isLetter_30 ?_
    refine sX11_isLetter_31 ?_
    exact sX11_isLetter_35 (Or.inr rfl) (k1 z)
  have r24 : ¬ (97 ≤ c ∧ c ≤ 122) → ¬ (65 ≤ c ∧ c ≤ 90) → aw g l mX11_isLetter 24 (lv_args 0 [.int (nI c)]) [] h Q := fun y1 y2 => by
    refine sX11_isLetter_24 rfl ?_
    refine nX11_isLetter_25 ?_
    refine nX11_isLetter_27 (by omega) (by omega) (fun z => ?_) (fun z => yes (cL_iff.mpr (Or.inr (Or.inr z))))
    refine sX11_isLetter_34 ?_
    exact sX11_isLetter_35 (Or.inl rfl) (k0 (bF cL_iff (by omega)))
  have r12 : ¬ (97 ≤ c ∧ c ≤ 122) → aw g l mX11_isLetter 12 (lv_args 0 [.int (nI c)]) [] h Q := fun y1 => by
    refine sX11_isLetter_12 rfl ?_
    refine nX11_isLetter_13 ?_
    refine nX11_isLetter_15 (by omega) (by omega) (fun z => r24 y1 (by omega)) (fun z1 => ?_)
    refine sX11_isLetter_18 rfl ?_
    refine nX11_isLetter_19 ?_
    exact nX11_isLetter_21 (by omega) (by omega) (fun z => yes (cL_iff.mpr (Or.inr (Or.inl ⟨z1, z⟩)))) (fun z => r24 y1 (by omega))
  refine sX11_isLetter_0 rfl ?_
  refine nX11_isLetter_1 ?_
  refine nX11_isLetter_3 (by omega) (by omega) (fun z => r12 (by omega)) (fun z1 => ?_)
  refine sX11_isLetter_6 rfl ?_
  refine nX11_isLetter_7 ?_
  exact nX11_isLetter_9 (by omega) (by omega) (fun z => yes (cL_iff.mpr (Or.inl ⟨z1, z⟩))) (fun z => r12 (by omega))
end Text1
/-- the reference's text: its place p is the text's place p + d -/
def RT (K : Nat → Nat → Int32) (C : Nat → Nat) (m d n lo : Nat) : Prop := tOk C m ∧ n + d = m ∧ K 0 21 = nI n ∧ (K 0 20 = 1 ∧ n ≤ 90000 ∧ (∀ p, lo ≤ p → p < n → K 11 p = nI (C (p + d))) ∨ K 0 20 = 0 ∧ n ≤ 4000 ∧ ∀ p, lo ≤ p → p < n → K 4 p = nI (C (p + d)))
section Text2
variable {g : xG} {l : Launch} {h : xH} {b : Nat} {K : Nat → Nat → Int32} {Q : Option Value → xH → Prop}
theorem c_at {C : Nat → Nat} {m d n lo p : Nat} (hS : RS h b) (hT : RT K C m d n lo) (hp : p < 2 ^ 31) (hlo : lo ≤ p) (k : Q (some (.int (nI (C (p + d))))) (xB h b K)) : ac g l mX11_at [.ref b, .int (nI p)] (xB h b K) Q := by
  refine ac_of (by decide) (Nat.le_of_ble_eq_true rfl) ?_
  obtain ⟨⟨hm, hz, hb⟩, hnd, hs, ht⟩ := hT
  refine sX11_at_0 rfl ?_
  refine sX11_at_1 rfl ?_
  refine tX11_at_2 hS ?_
  rw [hs]
  refine nX11_at_5 (by omega) (by omega) (fun hc => ?_) (fun hc => ?_)
  · rcases ht with ⟨h1, h2, h3⟩ | ⟨h1, h2, h3⟩
    · refine sX11_at_12 rfl ?_
      refine tX11_at_13 hS ?_
      rw [h1]
      refine sX11_at_16 (fun z => absurd z (by decide)) (fun _ => ?_)
      refine sX11_at_19 rfl ?_
      refine tX11_at_20 hS ?_
      refine sX11_at_23 rfl ?_
      refine tX11_at_24 hS (by decide) (by decide) rfl (by simp only [rl]; omega) ?_
      rw [h3 p hlo hc]
      refine sX11_at_25 ?_
      exact sX11_at_34 k
    · refine sX11_at_12 rfl ?_
      refine tX11_at_13 hS ?_
      rw [h1]
      refine sX11_at_16 (fun _ => ?_) (fun z => absurd rfl z)
      refine sX11_at_28 rfl ?_
      refine tX11_at_29 hS ?_
      refine sX11_at_32 rfl ?_
      refine tX11_at_33 hS (by decide) (by decide) rfl (by simp only [rl]; omega) ?_
      rw [h3 p hlo hc]
      exact sX11_at_34 k
  · rw [hz (p + d) (by omega)] at k
    refine nX11_at_8 ?_
    refine sX11_at_9 ?_
    exact sX11_at_34 k
end Text2
