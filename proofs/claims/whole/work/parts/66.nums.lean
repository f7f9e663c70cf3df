/-! ===== what a NUMBER says ===== -/
def dv (C : Nat → Nat) (N p : Nat) : Nat → Nat
  | 0 => N
  | k + 1 => dv C N p k * 10 + (C (p + k) - 48)
theorem dv_lt {C : Nat → Nat} {N p j : Nat} (hN : N < 10 ^ j) : ∀ k, (∀ i, p ≤ i → i < p + k → cD (C i) = true) → dv C N p k < 10 ^ (j + k)
  | 0, _ => hN
  | k + 1, h => by
    have h1 := dv_lt hN k (fun i a c => h i a (by omega))
    have h2 := cD_iff.mp (h (p + k) (by omega) (by omega))
    show dv C N p k * 10 + (C (p + k) - 48) < 10 ^ (j + (k + 1))
    rw [show j + (k + 1) = j + k + 1 by omega, Nat.pow_succ]
    omega
theorem dv_s {C : Nat → Nat} {N p : Nat} : ∀ k, dv C (N * 10 + (C p - 48)) (p + 1) k = dv C N p (k + 1)
  | 0 => rfl
  | k + 1 => by
    show dv C (N * 10 + (C p - 48)) (p + 1) k * 10 + (C (p + 1 + k) - 48) = dv C N p (k + 1) * 10 + (C (p + (k + 1)) - 48)
    rw [dv_s k, show p + 1 + k = p + (k + 1) by omega]
def nuN (C : Nat → Nat) (m a : Nat) : Nat := if nuP C m a = true then dv C (dv C 0 a (nu1 C m a - a)) (nu1 C m a + 1) (nu2 C m a - (nu1 C m a + 1)) else dv C 0 a (nu1 C m a - a)
def nuB (C : Nat → Nat) (m a : Nat) : Nat := if nuP C m a = true then nu2 C m a - (nu1 C m a + 1) else 0
def nuG (C : Nat → Nat) (m a : Nat) : Nat := if nuE C m a = true then dv C 0 (nuQ C m a) (nu3 C m a - nuQ C m a) else 0
def nuM (C : Nat → Nat) (m a : Nat) : Bool := nuE C m a && decide (C (nu2 C m a + 1) = 45)
theorem nuM_iff {C : Nat → Nat} {m a : Nat} : nuM C m a = true ↔ nuE C m a = true ∧ C (nu2 C m a + 1) = 45 := by unfold nuM; simp
def nuU (C : Nat → Nat) (m a : Nat) : Nat := if nuM C m a = true then 0 else nuG C m a - nuB C m a
def nuL (C : Nat → Nat) (m a : Nat) : Nat := if nuM C m a = true then nuG C m a + nuB C m a else nuB C m a - nuG C m a
def nuR (C : Nat → Nat) (m a : Nat) : Vl := (if nuN C m a = 0 then 0 else 1, nuN C m a * 10 ^ nuU C m a, 10 ^ nuL C m a, fun _ => 0)
noncomputable def nuV (B : Nat) (C : Nat → Nat) (m a : Nat) : Nat × Vl := vFin B (vRed (nuR C m a))
theorem nt_a {C : Nat → Nat} {m a : Nat} (h : tkK C m a = 3) : a < m ∧ cD (C a) = true ∧ nuD C m a ≤ 60 ∧ nuX C m a ≤ 3 ∧ tkT C m a = nu3 C m a := by
  have h0 := tkK_lt (C := C) (m := m) (a := a) (by omega)
  have hh := h
  unfold tkK at h
  rw [if_neg (by omega)] at h
  by_cases z1 : cL (C a) = true
  · rw [if_pos z1] at h; split at h <;> omega
  rw [if_neg z1] at h
  by_cases z2 : cD (C a) = true
  · rw [if_pos z2] at h
    refine ⟨h0, z2, ?_⟩
    have eT : tkT C m a = nu3 C m a := by unfold tkT; rw [if_neg (by omega), if_neg z1, if_pos z2]
    unfold nuK at h
    split at h
    · omega
    · exact ⟨by omega, by omega, eT⟩
  rw [if_neg z2] at h
  by_cases z3 : cS (C a) = true
  · rw [if_pos z3] at h; have := cS_gt z3; omega
  · rw [if_neg z3] at h; omega
theorem nt_1 {C : Nat → Nat} {m a i : Nat} (h1 : a ≤ i) (h2 : i < nu1 C m a) : cD (C i) = true := rnd_all h1 h2
theorem nt_2 {C : Nat → Nat} {m a i : Nat} (hP : nuP C m a = true) (h1 : nu1 C m a + 1 ≤ i) (h2 : i < nu2 C m a) : cD (C i) = true := by
  unfold nu2 at h2
  rw [if_pos hP] at h2
  exact rnd_all h1 h2
theorem nt_3 {C : Nat → Nat} {m a i : Nat} (hE : nuE C m a = true) (h1 : nuQ C m a ≤ i) (h2 : i < nu3 C m a) : cD (C i) = true := by
  unfold nu3 at h2
  rw [if_pos hE] at h2
  exact rnd_all h1 h2
theorem nt_N {C : Nat → Nat} {m a : Nat} (h : nuD C m a ≤ 60) : nuN C m a < 10 ^ 60 ∧ nuB C m a ≤ 60 := by
  have c1 : dv C 0 a (nu1 C m a - a) < 10 ^ (0 + (nu1 C m a - a)) := dv_lt (by decide) _ (fun i h1 h2 => nt_1 (m := m) h1 (by have := nu1_ge C m a; omega))
  unfold nuN nuB
  unfold nuD at h
  by_cases z : nuP C m a = true
  · rw [if_pos z] at h ⊢
    rw [if_pos z]
    refine ⟨Nat.lt_of_lt_of_le (dv_lt c1 _ (fun i h1 h2 => nt_2 z h1 (by omega))) (Nat.pow_le_pow_right (by decide) (by omega)), by omega⟩
  · rw [if_neg z] at h ⊢
    rw [if_neg z]
    exact ⟨Nat.lt_of_lt_of_le c1 (Nat.pow_le_pow_right (by decide) (by omega)), by omega⟩
theorem nt_G {C : Nat → Nat} {m a : Nat} (h : nuX C m a ≤ 3) : nuG C m a < 1000 := by
  unfold nuG
  unfold nuX at h
  by_cases z : nuE C m a = true
  · rw [if_pos z] at h ⊢
    have := dv_lt (C := C) (N := 0) (p := nuQ C m a) (j := 0) (by decide) (nu3 C m a - nuQ C m a) (fun i h1 h2 => nt_3 z h1 (by omega))
    refine Nat.lt_of_lt_of_le this (Nat.le_trans (Nat.pow_le_pow_right (by decide) (show 0 + (nu3 C m a - nuQ C m a) ≤ 3 by omega)) (by decide))
  · rw [if_neg z]; decide
/-- tens above or below 0 -/
theorem nI_negT {t : Nat} (h : t < 2 ^ 31) : (-nI t).toInt = -(t : Int) := by
  have e := nI_toInt h
  rw [Int32.toInt_neg, e]
  refine Int.bmod_eq_of_le ?_ ?_ <;> omega
theorem nt_x {U L G B : Nat} {M : Bool} (hG : G < 1000) (hB : B ≤ 60) (hU : U = if M = true then 0 else G - B) (hL : L = if M = true then G + B else B - G) : (if M = true then -nI G else nI G) - nI B = (if L = 0 then nI U else -nI L) := by
  apply Int32.toInt_inj.mp
  have a1 := nI_toInt (show G < 2 ^ 31 by omega)
  have a2 := nI_toInt (show B < 2 ^ 31 by omega)
  have a3 := nI_negT (show G < 2 ^ 31 by omega)
  rw [Int32.toInt_sub]
  cases M with
  | true =>
    rw [if_pos rfl] at hU hL ⊢
    rw [a3, a2]
    by_cases z : L = 0
    · rw [if_pos z, nI_toInt (by omega)]
      refine (Int.bmod_eq_of_le ?_ ?_).trans ?_ <;> omega
    · rw [if_neg z, nI_negT (by omega)]
      refine (Int.bmod_eq_of_le ?_ ?_).trans ?_ <;> omega
  | false =>
    rw [if_neg (by decide)] at hU hL ⊢
    rw [a1, a2]
    by_cases z : L = 0
    · rw [if_pos z, nI_toInt (by omega)]
      refine (Int.bmod_eq_of_le ?_ ?_).trans ?_ <;> omega
    · rw [if_neg z, nI_negT (by omega)]
      refine (Int.bmod_eq_of_le ?_ ?_).trans ?_ <;> omega
theorem y_tens : (10 : Nat) ^ 60 * 10 ^ 999 < yB 128 ∧ (10 : Nat) ^ 1060 < yB 128 := by
  rw [yB_two]; decide +kernel
theorem z_tens : (10 : Nat) ^ 60 * 10 ^ 160 < zB 80 ∧ 2 * (10 : Nat) ^ 260 ≤ zB 80 ∧ 2 ^ 512 ≤ 10 ^ 161 ∧ 2 ^ 512 * 10 ^ 60 ≤ 10 ^ 261 := by
  rw [zB_80]; decide +kernel
theorem nu_ord {C : Nat → Nat} {m a : Nat} (hC : tOk C m) (ha : a < m) (hd : cD (C a) = true) : a < nu1 C m a ∧ nu1 C m a ≤ nu2 C m a ∧ nu2 C m a ≤ nu3 C m a ∧ nu3 C m a ≤ m ∧ (nuE C m a = true → nuQ C m a ≤ nu3 C m a) ∧ (nuP C m a = true → nu1 C m a + 1 ≤ nu2 C m a) ∧ (nuE C m a = false → nu3 C m a = nu2 C m a) ∧ (nuP C m a = false → nu2 C m a = nu1 C m a) := by
  refine ⟨rnd_gt ha hd, nu2_ge C m a, nu3_ge C m a, nu3_le hC (by omega), fun z => ?_, fun z => ?_, fun z => ?_, fun z => ?_⟩
  · unfold nu3; rw [if_pos z]; exact rnd_ge _ _ _ _
  · unfold nu2; rw [if_pos z]; exact rnd_ge _ _ _ _
  · unfold nu3; rw [if_neg (by rw [z]; decide)]
  · unfold nu2; rw [if_neg (by rw [z]; decide)]
theorem cD_sb {c : Nat} (h : cD c = true) : sb c = nI c ∧ 48 ≤ c ∧ c ≤ 57 := by
  have := cD_iff.mp h
  exact ⟨sb_small (by omega), this⟩
section Nums1
variable {g : xG} {l : Launch} {h : xH} {J : Nat → Nat → Int32} {Q : Option Value → xH → Prop} {C : Nat → Nat} {m : Nat}
theorem c_exponentAt {e tx a : Nat} (ht : xT h tx = (101, 10240)) (hC : tOk C m) (hm : m ≤ 10240) (h3 : tkK C m a = 3) (hb : ∀ p, a ≤ p → p < m → J tx p = sb (C p)) (k : Q (some (.int (if nuM C m a = true then -nI (nuG C m a) else nI (nuG C m a)))) (xJ h J)) : ac g l mX0_exponentAt [.ref e, .ref tx, .int (nI (nu2 C m a + 1)), .int (nI (nu3 C m a))] (xJ h J) Q := by
  refine ac_of (by decide) (Nat.le_of_ble_eq_true rfl) ?_
  obtain ⟨ham, hcd, hd, hx, -⟩ := nt_a h3
  obtain ⟨o1, o2, o3, o4, o5, o6, o7, o8⟩ := nu_ord hC ham hcd
  have hG := nt_G hx
  have nQ := nuQ_ge C m a
  have fin : ∀ lv0 : List (Nat × Value), (∀ z ∈ ([(4, .int (nI (nuG C m a))), (5, .int (if nuM C m a = true then 1 else 0))] : List (Nat × Value)), z ∈ lv0) → aw g l mX0_exponentAt 60 lv0 [] (xJ h J) Q := by
    intro lv0 hlv
    refine aw_lv hlv ?_
    refine sX0_exponentAt_60 rfl ?_
    by_cases z : nuM C m a = true
    · rw [if_pos z] at k ⊢
      refine sX0_exponentAt_62 (fun w => absurd w (by decide)) (fun _ => ?_)
      refine sX0_exponentAt_65 rfl ?_
      refine sX0_exponentAt_67 ?_
      refine sX0_exponentAt_68 ?_
      exact sX0_exponentAt_73 k
    · rw [if_neg z] at k ⊢
      refine sX0_exponentAt_62 (fun _ => ?_) (fun w => absurd rfl w)
      refine sX0_exponentAt_71 rfl ?_
      exact sX0_exponentAt_73 k
  by_cases hE : nuE C m a = true
  · have q3 := o5 hE
    have dig : ∀ f p lv0, p + f = nu3 C m a → nuQ C m a ≤ p → (∀ z ∈ ([(1, .ref tx), (3, .int (nI (nu3 C m a))), (4, .int (nI (dv C 0 (nuQ C m a) (p - nuQ C m a)))), (5, .int (if nuM C m a = true then 1 else 0)), (6, .int (nI p))] : List (Nat × Value)), z ∈ lv0) → aw g l mX0_exponentAt 9 lv0 [] (xJ h J) Q := by
      intro f
      induction f with
      | zero =>
        intro p lv0 hp hq hlv
        refine aw_lv hlv ?_
        refine sX0_exponentAt_9 rfl ?_
        refine sX0_exponentAt_11 rfl ?_
        refine nX0_exponentAt_12 (by omega) (by omega) (fun _ => ?_) (fun z => absurd z (by omega))
        refine fin _ ?_
        have : nuG C m a = dv C 0 (nuQ C m a) (p - nuQ C m a) := by unfold nuG; rw [if_pos hE, show nu3 C m a = p by omega]
        rw [this]
        exact (fun z hz => by simp only [List.mem_cons, List.not_mem_nil, or_false] at hz; rcases hz with rfl | rfl <;> exact xlk_mem rfl)
      | succ f ih =>
        intro p lv0 hp hq hlv
        refine aw_lv hlv ?_
        obtain ⟨s1, s2, s3⟩ := cD_sb (nt_3 hE hq (by omega))
        have lt := dv_lt (C := C) (N := 0) (p := nuQ C m a) (j := 0) (by decide) (p - nuQ C m a) (fun i h1 h2 => nt_3 hE h1 (by omega))
        have lt3 : 10 ^ (0 + (p - nuQ C m a)) ≤ 10 ^ 3 := Nat.pow_le_pow_right (by decide) (by unfold nuX at hx; rw [if_pos hE] at hx; omega)
        refine sX0_exponentAt_9 rfl ?_
        refine sX0_exponentAt_11 rfl ?_
        refine nX0_exponentAt_12 (by omega) (by omega) (fun z => absurd z (by omega)) (fun _ => ?_)
        refine sX0_exponentAt_15 rfl ?_
        refine sX0_exponentAt_16 rfl ?_
        refine jX0_exponentAt_18 (by assumption) (by omega) (by omega) ?_
        rw [hb p (by omega) (by omega), s1]
        refine nX0_exponentAt_19 ?_
        refine nX0_exponentAt_21 (by omega) (by omega) (fun _ => ?_) (fun z => absurd z (by omega))
        refine sX0_exponentAt_30 rfl ?_
        refine sX0_exponentAt_31 rfl ?_
        refine jX0_exponentAt_33 (by assumption) (by omega) (by omega) ?_
        rw [hb p (by omega) (by omega), s1]
        refine nX0_exponentAt_34 ?_
        refine nX0_exponentAt_36 (by omega) (by omega) (fun z => absurd z (by omega)) (fun _ => ?_)
        refine sX0_exponentAt_39 rfl ?_
        refine nX0_exponentAt_41 ?_
        refine nX0_exponentAt_43 ?_
        refine sX0_exponentAt_44 rfl ?_
        refine sX0_exponentAt_45 rfl ?_
        refine jX0_exponentAt_47 (by assumption) (by omega) (by omega) ?_
        rw [hb p (by omega) (by omega), s1]
        refine nX0_exponentAt_48 ?_
        refine nX0_exponentAt_49 ?_
        refine nX0_exponentAt_51 (by omega) ?_
        refine sX0_exponentAt_52 ?_
        refine nX0_exponentAt_54 rfl ?_
        refine sX0_exponentAt_57 ?_
        refine ih (p + 1) _ (by omega) (by omega) ?_
        have : dv C 0 (nuQ C m a) (p + 1 - nuQ C m a) = dv C 0 (nuQ C m a) (p - nuQ C m a) * 10 + C p - 48 := by
          rw [show p + 1 - nuQ C m a = p - nuQ C m a + 1 by omega]
          show dv C 0 (nuQ C m a) (p - nuQ C m a) * 10 + (C (nuQ C m a + (p - nuQ C m a)) - 48) = _
          rw [show nuQ C m a + (p - nuQ C m a) = p by omega]
          omega
        rw [this]
        exact (fun z hz => by simp only [List.mem_cons, List.not_mem_nil, or_false] at hz; rcases hz with rfl | rfl | rfl | rfl | rfl <;> exact xlk_mem rfl)
    have start : ∀ lv0 : List (Nat × Value), (∀ z ∈ ([(1, .ref tx), (3, .int (nI (nu3 C m a))), (4, .int (nI 0)), (5, .int (if nuM C m a = true then 1 else 0)), (6, .int (nI (nuQ C m a)))] : List (Nat × Value)), z ∈ lv0) → aw g l mX0_exponentAt 9 lv0 [] (xJ h J) Q := fun lv0 hlv =>
      dig (nu3 C m a - nuQ C m a) (nuQ C m a) lv0 (by omega) (Nat.le_refl _) (by rw [Nat.sub_self]; exact hlv)
    have hy := nuE_iff.mp hE
    have q3' : nuQ C m a < nu3 C m a := by
      unfold nu3; rw [if_pos hE]; exact rnd_gt (cD_lt hC hy.2) hy.2
    have c1 := hC.2.2 (nu2 C m a + 1)
    by_cases z45 : C (nu2 C m a + 1) = 45
    · have eM : nuM C m a = true := nuM_iff.mpr ⟨hE, z45⟩
      have eQ : nuQ C m a = nu2 C m a + 2 := by unfold nuQ; rw [if_pos (Or.inr z45)]
      rw [if_pos eM] at start
      refine nX0_exponentAt_0 ?_
      refine sX0_exponentAt_1 ?_
      refine nX0_exponentAt_3 ?_
      refine sX0_exponentAt_4 ?_
      refine sX0_exponentAt_6 rfl ?_
      refine sX0_exponentAt_7 ?_
      refine sX0_exponentAt_9 rfl ?_
      refine sX0_exponentAt_11 rfl ?_
      refine nX0_exponentAt_12 (by omega) (by omega) (fun z => absurd z (by omega)) (fun _ => ?_)
      refine sX0_exponentAt_15 rfl ?_
      refine sX0_exponentAt_16 rfl ?_
      refine jX0_exponentAt_18 (by assumption) (by omega) (by omega) ?_
      rw [hb _ (by omega) (by omega), z45, sb_small (by decide)]
      refine nX0_exponentAt_19 ?_
      refine nX0_exponentAt_21 (by omega) (by omega) (fun z => absurd rfl z) (fun _ => ?_)
      refine sX0_exponentAt_24 ?_
      refine sX0_exponentAt_25 ?_
      refine sX0_exponentAt_27 ?_
      refine nX0_exponentAt_54 rfl ?_
      refine sX0_exponentAt_57 ?_
      refine start _ ?_
      rw [eQ]
      exact (fun z hz => by simp only [List.mem_cons, List.not_mem_nil, or_false] at hz; rcases hz with rfl | rfl | rfl | rfl | rfl <;> exact xlk_mem rfl)
    · have eM : nuM C m a = false := bF nuM_iff (fun w => z45 w.2)
      rw [if_neg (show ¬ nuM C m a = true by rw [eM]; decide)] at start
      by_cases z43 : C (nu2 C m a + 1) = 43
      · have eQ : nuQ C m a = nu2 C m a + 2 := by unfold nuQ; rw [if_pos (Or.inl z43)]
        refine nX0_exponentAt_0 ?_
        refine sX0_exponentAt_1 ?_
        refine sX0_exponentAt_3 ?_
        refine sX0_exponentAt_4 ?_
        refine sX0_exponentAt_6 rfl ?_
        refine sX0_exponentAt_7 ?_
        refine sX0_exponentAt_9 rfl ?_
        refine sX0_exponentAt_11 rfl ?_
        refine nX0_exponentAt_12 (by omega) (by omega) (fun z => absurd z (by omega)) (fun _ => ?_)
        refine sX0_exponentAt_15 rfl ?_
        refine sX0_exponentAt_16 rfl ?_
        refine jX0_exponentAt_18 (by assumption) (by omega) (by omega) ?_
        rw [hb _ (by omega) (by omega), z43, sb_small (by decide)]
        refine nX0_exponentAt_19 ?_
        refine nX0_exponentAt_21 (by omega) (by omega) (fun _ => ?_) (fun z => absurd z (by decide))
        refine sX0_exponentAt_30 rfl ?_
        refine sX0_exponentAt_31 rfl ?_
        refine jX0_exponentAt_33 (by assumption) (by omega) (by omega) ?_
        rw [hb _ (by omega) (by omega), z43, sb_small (by decide)]
        refine nX0_exponentAt_34 ?_
        refine nX0_exponentAt_36 (by omega) (by omega) (fun _ => ?_) (fun z => absurd rfl z)
        refine nX0_exponentAt_54 rfl ?_
        refine sX0_exponentAt_57 ?_
        refine start _ ?_
        rw [eQ]
        exact (fun z hz => by simp only [List.mem_cons, List.not_mem_nil, or_false] at hz; rcases hz with rfl | rfl | rfl | rfl | rfl <;> exact xlk_mem rfl)
      · have eQ : nuQ C m a = nu2 C m a + 1 := by unfold nuQ; rw [if_neg (by omega)]
        refine nX0_exponentAt_0 ?_
        refine sX0_exponentAt_1 ?_
        refine sX0_exponentAt_3 ?_
        refine sX0_exponentAt_4 ?_
        refine sX0_exponentAt_6 rfl ?_
        refine sX0_exponentAt_7 ?_
        refine start _ ?_
        rw [eQ]
        exact (fun z hz => by simp only [List.mem_cons, List.not_mem_nil, or_false] at hz; rcases hz with rfl | rfl | rfl | rfl | rfl <;> exact xlk_mem rfl)
  · have hE' : nuE C m a = false := by simpa using hE
    have e3 := o7 hE'
    have eM : nuM C m a = false := bF nuM_iff (fun w => hE w.1)
    have eG : nuG C m a = 0 := by unfold nuG; rw [if_neg hE]
    refine nX0_exponentAt_0 ?_
    refine sX0_exponentAt_1 ?_
    refine sX0_exponentAt_3 ?_
    refine sX0_exponentAt_4 ?_
    refine sX0_exponentAt_6 rfl ?_
    refine sX0_exponentAt_7 ?_
    refine sX0_exponentAt_9 rfl ?_
    refine sX0_exponentAt_11 rfl ?_
    refine nX0_exponentAt_12 (by omega) (by omega) (fun _ => ?_) (fun z => absurd z (by omega))
    refine fin _ ?_
    rw [eG, if_neg (show ¬ nuM C m a = true by rw [eM]; decide)]
    exact (fun z hz => by simp only [List.mem_cons, List.not_mem_nil, or_false] at hz; rcases hz with rfl | rfl <;> exact xlk_mem rfl)
theorem c_readNumber {e q B tx a : Nat} (hB : CB h e) (hq : CV h q) (hT : CT g h J) (ht : xT h tx = (101, 10240)) (hC : tOk C m) (hm : m ≤ 10240) (h3 : tkK C m a = 3) (hb : ∀ p, a ≤ p → p < m → J tx p = sb (C p)) (hbit : J e 0 = nI B) (hb2 : B ≤ 512) (k : actP h e q J (nuV B C m a) Q) : ac g l mX0_readNumber [.ref e, .ref tx, .int (nI a), .int (nI (nu3 C m a - a)), .ref q] (xJ h J) Q := by
  refine ac_of (by decide) (Nat.le_of_ble_eq_true rfl) ?_
  obtain ⟨ham, hcd, hd, hx, -⟩ := nt_a h3
  obtain ⟨o1, o2, o3, o4, o5, o6, o7, o8⟩ := nu_ord hC ham hcd
  have hG := nt_G hx
  obtain ⟨hN, hBe⟩ := nt_N hd
  have far := CV_B hq hB
  have tg := CB_tags hB
  have tv := CV_tags hq
  have e0 := hB.1
  have q0 := hq.1
  have txe : tx < e ∨ e + 13 ≤ tx := by
    rcases Nat.lt_or_ge tx e with z | z
    · exact Or.inl z
    rcases Nat.lt_or_ge tx (e + 13) with y | y
    · exfalso
      have t1 : (xT h tx).1 = 101 := by rw [ht]
      rcases Nat.eq_or_lt_of_le z with w | w
      · rw [w] at e0; omega
      · have := tg (tx - e) (by omega) (by omega)
        rw [show e + (tx - e) = tx by omega] at this
        omega
    · exact Or.inr y
  have tne : g.2.2.2 < e ∨ e + 13 ≤ g.2.2.2 := by
    rcases Nat.lt_or_ge g.2.2.2 e with z | z
    · exact Or.inl z
    rcases Nat.lt_or_ge g.2.2.2 (e + 13) with y | y
    · exfalso
      have t1 : (xT h g.2.2.2).1 = 104 := by rw [hT.1]
      rcases Nat.eq_or_lt_of_le z with w | w
      · rw [w] at e0; omega
      · have := tg (g.2.2.2 - e) (by omega) (by omega)
        rw [show e + (g.2.2.2 - e) = g.2.2.2 by omega] at this
        omega
    · exact Or.inr y
  have hB' := hB
  obtain ⟨-, ⟨p1, p2, -⟩, ⟨n1, n2, -⟩, -⟩ := hB
  have n1t := n1.1
  have n2t := n2.1
  have hE3 := nu3_ge C m a
  have yt := y_tens
  -- behind the digits
  have tail : ∀ (J1 : Nat → Nat → Int32) (lv0 : List (Nat × Value)), (∀ r, r ≠ e + 1 → r ≠ e + 2 → J1 r = J r) → NJ J1 (e + 1) 128 (nuN C m a) → (∀ z ∈ ([(0, .ref e), (1, .ref tx), (4, .ref q), (5, .int (nI (nu3 C m a))), (6, .int (nI (nuB C m a))), (8, .int (nI (nu2 C m a)))] : List (Nat × Value)), z ∈ lv0) → aw g l mX0_readNumber 99 lv0 [] (xJ h J1) Q := by
    intro J1 lv0 r1 v1 hlv
    refine aw_lv hlv ?_
    refine sX0_readNumber_99 rfl ?_
    refine sX0_readNumber_100 rfl ?_
    refine sX0_readNumber_101 rfl ?_
    refine nX0_readNumber_103 ?_
    refine nX0_readNumber_104 ?_
    refine sX0_readNumber_105 rfl ?_
    refine jX0_readNumber_107 (Nat.le_of_ble_eq_true rfl) (by assumption) ?_
    refine c_exponentAt ht hC hm h3 (fun p y1 y2 => by rw [r1 tx (by omega) (by omega)]; exact hb p y1 y2) ?_
    refine sX0_readNumber_110 rfl ?_
    refine sX0_readNumber_112 ?_
    rw [nt_x hG hBe (show nuU C m a = _ from rfl) (show nuL C m a = _ from rfl)]
    refine sX0_readNumber_113 ?_
    refine sX0_readNumber_115 rfl ?_
    refine jX0_readNumber_116 (by assumption) (by assumption) ?_
    refine nX0_readNumber_119 ?_
    refine jX0_readNumber_120 (Nat.le_of_ble_eq_true rfl) (by assumption) ?_
    refine c_setSmall5 n2 (by decide) (by decide) (by decide) (fun J2 r2 v2 => ?_)
    have r2' : ∀ r, r ≠ e + 1 → r ≠ e + 2 → r ≠ e + 3 → r ≠ e + 4 → J2 r = J r := fun r y1 y2 y3 y4 => by rw [r2 r y3 y4]; exact r1 r y1 y2
    have v1' : NJ J2 (e + 1) 128 (nuN C m a) := NJ_c (r2 _ (by omega) (by omega)) (r2 _ (by omega) (by omega)) v1
    have T2 : CT g h J2 := ⟨hT.1, fun i hi => by rw [r2' _ (by omega) (by omega) (by omega) (by omega)]; exact hT.2 i hi⟩
    have fin : ∀ (J3 : Nat → Nat → Int32) (lv1 : List (Nat × Value)), (∀ r, r ≠ e + 1 → r ≠ e + 2 → r ≠ e + 3 → r ≠ e + 4 → J3 r = J r) → NJ J3 (e + 1) 128 (nuN C m a * 10 ^ nuU C m a) → NJ J3 (e + 3) 128 (10 ^ nuL C m a) → (∀ z ∈ ([(0, .ref e), (4, .ref q)] : List (Nat × Value)), z ∈ lv1) → aw g l mX0_readNumber 147 lv1 [] (xJ h J3) Q := by
      intro J3 lv1 r3 w1 w2 hlv1
      refine aw_lv hlv1 ?_
      obtain ⟨s, s1, s2, s3⟩ := NJ_size w1
      have p10 : 0 < 10 ^ nuU C m a := Nat.pow_pos (by decide)
      have hz : s = 0 ↔ nuN C m a = 0 := s3.trans (by rw [Nat.mul_eq_zero]; constructor <;> intro y <;> omega)
      have go : ∀ (x : Int32) (lv2 : List (Nat × Value)), x = (nuR C m a).1 → (∀ z ∈ ([(0, .ref e), (4, .ref q)] : List (Nat × Value)), z ∈ lv2) → aw g l mX0_readNumber 163 lv2 [.int x, .ref e] (xJ h J3) Q := by
        intro x lv2 hx' hlv2
        refine aw_lv hlv2 ?_
        refine jX0_readNumber_163 (by assumption) ?_
        obtain ⟨J4, hJ4⟩ : ∃ J4, J4 = xup2 J3 e 3 x := ⟨_, rfl⟩
        have r4 : ∀ r, r ≠ e → J4 r = J3 r := fun r y => by rw [hJ4, xup2_r y]
        rw [← hJ4]
        have qc : (xT h q).1 = 9 := q0
        refine sX0_readNumber_166 rfl ?_
        refine nX0_readNumber_168 ?_
        refine jX0_readNumber_169 (Nat.le_of_ble_eq_true rfl) (by assumption) ?_
        refine c_losePowers hq (by decide) (fun J5 r5 w5 => ?_)
        refine sX0_readNumber_172 rfl ?_
        refine jX0_readNumber_173 (Nat.le_of_ble_eq_true rfl) (by assumption) ?_
        refine c_reduceB hB' (NJ_c (by rw [r5 _ (by omega), r4 _ (by omega)]) (by rw [r5 _ (by omega), r4 _ (by omega)]) w1) (NJ_c (by rw [r5 _ (by omega), r4 _ (by omega)]) (by rw [r5 _ (by omega), r4 _ (by omega)]) w2) (Nat.pow_pos (by decide)) (fun J6 r6 m1 m2 => ?_)
        refine sX0_readNumber_176 rfl ?_
        refine sX0_readNumber_177 rfl ?_
        refine jX0_readNumber_179 (Nat.le_of_ble_eq_true rfl) (by assumption) ?_
        have ev : nuV B C m a = vFin B ((nuR C m a).1, if nuN C m a * 10 ^ nuU C m a = 0 then 0 else nuN C m a * 10 ^ nuU C m a / Nat.gcd (nuN C m a * 10 ^ nuU C m a) (10 ^ nuL C m a), if nuN C m a * 10 ^ nuU C m a = 0 then 1 else 10 ^ nuL C m a / Nat.gcd (nuN C m a * 10 ^ nuU C m a) (10 ^ nuL C m a), fun _ => 0) := by
          unfold nuV
          have : nuR C m a = ((nuR C m a).1, nuN C m a * 10 ^ nuU C m a, 10 ^ nuL C m a, fun _ => 0) := rfl
          rw [this, vRed_eq]
          intro y
          show (if nuN C m a = 0 then (0 : Int32) else 1) = 0
          rw [if_pos]
          rcases Nat.mul_eq_zero.mp y with w | w <;> omega
        obtain ⟨T, eT⟩ : ∃ T, T = if nuN C m a * 10 ^ nuU C m a = 0 then 0 else nuN C m a * 10 ^ nuU C m a / Nat.gcd (nuN C m a * 10 ^ nuU C m a) (10 ^ nuL C m a) := ⟨_, rfl⟩
        obtain ⟨D, eD⟩ : ∃ D, D = if nuN C m a * 10 ^ nuU C m a = 0 then 1 else 10 ^ nuL C m a / Nat.gcd (nuN C m a * 10 ^ nuU C m a) (10 ^ nuL C m a) := ⟨_, rfl⟩
        rw [← eT] at m1 ev
        rw [← eD] at m2 ev
        rw [ev] at k
        have b6 : ∀ j, J6 e j = if j = 3 then x else J e j := fun j => by
          rw [r6 e (by omega), r5 e (by omega), hJ4]
          by_cases y : j = 3
          · rw [if_pos y, y, xup2_s]
          · rw [if_neg y, xup2_n y, r3 e (by omega) (by omega) (by omega) (by omega)]
        refine c_putInto hB' hq (by rw [b6 0, if_neg (by decide)]; exact hbit) hb2 m1 m2 (fun J7 hb7 r7 g7 m7 l7 => ?_) (fun hb7 => ?_)
        · have hv : vFin B ((nuR C m a).1, T, D, fun _ => (0 : Int32)) = (0, ((nuR C m a).1, T, D, fun _ => 0)) := vFin_0 hb7
          rw [hv] at k
          refine sX0_readNumber_182 (k J7 ⟨fun r z1 z2 => ?_, ?_⟩ (fun _ => ⟨?_, m7, l7, fun j hj => ?_⟩))
          · rw [r7 r (by omega), r6 r (by omega), r5 r (by omega), r4 r (by omega), r3 r (by omega) (by omega) (by omega) (by omega)]
          · rw [r7 e (by omega), b6 0, if_neg (by decide)]
          · rw [g7, b6 3, if_pos rfl]; exact hx'
          · rw [r7 _ (by omega), r6 _ (by omega), w5 j hj, if_pos (Nat.zero_le _)]; rfl
        · have hv : vFin B ((nuR C m a).1, T, D, fun _ => (0 : Int32)) = (9, ((nuR C m a).1, T, D, fun _ => 0)) := vFin_1 hb7
          rw [hv] at k
          refine sX0_readNumber_182 (k J6 ⟨fun r z1 z2 => ?_, ?_⟩ (fun z => absurd z (show (9 : Nat) ≠ 0 by decide)))
          · rw [r6 r (by omega), r5 r (by omega), r4 r (by omega), r3 r (by omega) (by omega) (by omega) (by omega)]
          · rw [b6 0, if_neg (by decide)]
      refine sX0_readNumber_147 rfl ?_
      refine sX0_readNumber_148 rfl ?_
      refine jX0_readNumber_149 (by assumption) (by assumption) ?_
      refine jX0_readNumber_152 (by assumption) ?_
      rw [s2]
      refine nX0_readNumber_155 (by omega) (fun y => ?_) (fun y => ?_)
      · refine nX0_readNumber_162 ?_
        refine go _ _ ?_ (fun z hz => by simp only [List.mem_cons, List.not_mem_nil, or_false] at hz; rcases hz with rfl | rfl <;> exact xlk_mem rfl)
        show nI 1 = if nuN C m a = 0 then (0 : Int32) else 1
        rw [if_neg (fun w => y (hz.mpr w))]; rfl
      · refine nX0_readNumber_158 ?_
        refine sX0_readNumber_159 ?_
        refine go _ _ ?_ (fun z hz => by simp only [List.mem_cons, List.not_mem_nil, or_false] at hz; rcases hz with rfl | rfl <;> exact xlk_mem rfl)
        show nI 0 = if nuN C m a = 0 then (0 : Int32) else 1
        rw [if_pos (hz.mp y)]; rfl
    have hU : nuU C m a ≤ 999 := by unfold nuU; split <;> omega
    have hL : nuL C m a ≤ 1060 := by unfold nuL; split <;> omega
    by_cases zL : nuL C m a = 0
    · rw [if_pos zL]
      refine sX0_readNumber_123 rfl ?_
      refine nX0_readNumber_125 (by omega) ?_
      refine sX0_readNumber_135 rfl ?_
      refine jX0_readNumber_136 (by assumption) (by assumption) ?_
      refine sX0_readNumber_139 rfl ?_
      refine mX0_readNumber_141 (Nat.le_of_ble_eq_true rfl) ?_
      rw [if_pos (nI_pos' (by omega))]
      refine jX0_readNumber_144 (Nat.le_of_ble_eq_true rfl) (by assumption) ?_
      refine c_timesTens n1 (by decide) (by omega) T2 v1' ?_ (fun J3 r3 v3 => ?_)
      · refine Nat.lt_of_le_of_lt (Nat.mul_le_mul (Nat.le_of_lt hN) (Nat.pow_le_pow_right (by decide) hU)) yt.1
      · refine fin J3 _ (fun r y1 y2 y3 y4 => by rw [r3 r y1 y2]; exact r2' r y1 y2 y3 y4) v3 ?_ (fun z hz => by simp only [List.mem_cons, List.not_mem_nil, or_false] at hz; rcases hz with rfl | rfl <;> exact xlk_mem rfl)
        refine NJ_v (NJ_c (r3 _ (by omega) (by omega)) (r3 _ (by omega) (by omega)) v2) ?_
        rw [zL, Nat.pow_zero]
    · rw [if_neg zL]
      have eU : nuU C m a = 0 := by
        unfold nuU nuL at *
        split at zL <;> rename_i y
        · rw [if_pos y]
        · rw [if_neg y]; omega
      have neg : ¬ (0 : Int32) ≤ -nI (nuL C m a) := by
        rw [Int32.le_iff_toInt_le, nI_negT (by omega)]
        show ¬ (0 : Int) ≤ _
        omega
      refine sX0_readNumber_123 rfl ?_
      refine sX0_readNumber_125 (fun y => absurd y neg) (fun _ => ?_)
      refine sX0_readNumber_128 rfl ?_
      refine jX0_readNumber_129 (by assumption) (by assumption) ?_
      refine sX0_readNumber_132 ?_
      refine sX0_readNumber_139 rfl ?_
      refine mX0_readNumber_141 (Nat.le_of_ble_eq_true rfl) ?_
      rw [if_neg neg, show (0 : Int32) - -nI (nuL C m a) = nI (nuL C m a) by simp]
      refine jX0_readNumber_144 (Nat.le_of_ble_eq_true rfl) (by assumption) ?_
      refine c_timesTens n2 (by decide) (by omega) T2 v2 ?_ (fun J3 r3 v3 => ?_)
      · rw [Nat.one_mul]; exact Nat.lt_of_le_of_lt (Nat.pow_le_pow_right (by decide) hL) yt.2
      · refine fin J3 _ (fun r y1 y2 y3 y4 => by rw [r3 r y3 y4]; exact r2' r y1 y2 y3 y4) ?_ (NJ_v v3 (Nat.one_mul _)) (fun z hz => by simp only [List.mem_cons, List.not_mem_nil, or_false] at hz; rcases hz with rfl | rfl <;> exact xlk_mem rfl)
        refine NJ_v (NJ_c (r3 _ (by omega) (by omega)) (r3 _ (by omega) (by omega)) v1') ?_
        rw [eU, Nat.pow_zero, Nat.mul_one]
  -- some digits
  have ph : ∀ (f p N be pt j : Nat) (J1 : Nat → Nat → Int32) (lv0 : List (Nat × Value)), (pt = 0 ∨ pt = 1) → a ≤ p → p + f ≤ nu3 C m a → (∀ i, p ≤ i → i < p + f → cD (C i) = true) → N < 10 ^ j → j + f ≤ 60 → be ≤ j → (∀ r, r ≠ e + 1 → r ≠ e + 2 → J1 r = J r) → NJ J1 (e + 1) 128 N → (∀ z ∈ ([(0, .ref e), (1, .ref tx), (4, .ref q), (5, .int (nI (nu3 C m a))), (6, .int (nI be)), (7, .int (nI pt)), (8, .int (nI p))] : List (Nat × Value)), z ∈ lv0) → (∀ (J2 : Nat → Nat → Int32) (lv2 : List (Nat × Value)), (∀ r, r ≠ e + 1 → r ≠ e + 2 → J2 r = J r) → NJ J2 (e + 1) 128 (dv C N p f) → (∀ z ∈ ([(0, .ref e), (1, .ref tx), (4, .ref q), (5, .int (nI (nu3 C m a))), (6, .int (nI (be + f * pt))), (7, .int (nI pt)), (8, .int (nI (p + f)))] : List (Nat × Value)), z ∈ lv2) → aw g l mX0_readNumber 31 lv2 [] (xJ h J2) Q) → aw g l mX0_readNumber 31 lv0 [] (xJ h J1) Q := by
    intro f
    induction f with
    | zero =>
      intro p N be pt j J1 lv0 _ _ _ _ _ _ _ r1 v1 hlv kk
      exact kk J1 lv0 r1 v1 (by rw [Nat.zero_mul]; exact hlv)
    | succ f ih =>
      intro p N be pt j J1 lv0 hpt hap hpf hdg hNj hjf hbj r1 v1 hlv kk
      refine aw_lv hlv ?_
      obtain ⟨s1, s2, s3⟩ := cD_sb (hdg p (Nat.le_refl _) (by omega))
      have hjj : 10 ^ (j + 1) ≤ 10 ^ 60 := Nat.pow_le_pow_right (by decide) (by omega)
      have hj1 : 10 ^ (j + 1) = 10 ^ j * 10 := Nat.pow_succ ..
      have byt : J1 tx p = nI (C p) := by rw [r1 tx (by omega) (by omega), hb p hap (by omega), s1]
      refine sX0_readNumber_31 rfl ?_
      refine sX0_readNumber_33 rfl ?_
      refine nX0_readNumber_35 (by omega) (by omega) (fun z => absurd z (by omega)) (fun _ => ?_)
      refine sX0_readNumber_38 rfl ?_
      refine sX0_readNumber_39 rfl ?_
      refine jX0_readNumber_41 (by assumption) (by omega) (by omega) ?_
      rw [byt]
      refine nX0_readNumber_42 ?_
      refine nX0_readNumber_44 (by omega) (by omega) (fun z => absurd z (by omega)) (fun _ => ?_)
      refine sX0_readNumber_47 rfl ?_
      refine sX0_readNumber_48 rfl ?_
      refine jX0_readNumber_50 (by assumption) (by omega) (by omega) ?_
      rw [byt]
      refine nX0_readNumber_51 ?_
      refine nX0_readNumber_53 (by omega) (by omega) (fun _ => ?_) (fun z => absurd z (by omega))
      refine sX0_readNumber_62 rfl ?_
      refine jX0_readNumber_63 (by assumption) (by assumption) ?_
      refine nX0_readNumber_66 ?_
      refine sX0_readNumber_68 rfl ?_
      refine sX0_readNumber_69 rfl ?_
      refine jX0_readNumber_71 (by assumption) (by omega) (by omega) ?_
      rw [byt]
      refine nX0_readNumber_72 ?_
      refine nX0_readNumber_74 (by omega) ?_
      refine jX0_readNumber_75 (Nat.le_of_ble_eq_true rfl) (by assumption) ?_
      refine c_timesPlus n1 (by decide) (by decide) (by decide) (by omega) v1 (Nat.lt_of_le_of_lt (show N * 10 + (C p - 48) ≤ 10 ^ 60 by omega) (Nat.lt_of_le_of_lt (by decide +kernel) yt.1)) (fun J2 r2 v2 => ?_)
      have kk' : ∀ lv2 : List (Nat × Value), (∀ z ∈ ([(0, .ref e), (1, .ref tx), (4, .ref q), (5, .int (nI (nu3 C m a))), (6, .int (nI (be + pt))), (7, .int (nI pt)), (8, .int (nI (p + 1)))] : List (Nat × Value)), z ∈ lv2) → aw g l mX0_readNumber 31 lv2 [] (xJ h J2) Q := fun lv2 hlv2 => by
        refine ih (p + 1) (N * 10 + (C p - 48)) (be + pt) pt (j + 1) J2 lv2 hpt (by omega) (by omega) (fun i y1 y2 => hdg i (by omega) (by omega)) (by omega) (by omega) (by omega) (fun r y1 y2 => by rw [r2 r y1 y2]; exact r1 r y1 y2) v2 hlv2 (fun J3 lv3 r3 v3 hlv3 => kk J3 lv3 r3 (by rw [← dv_s]; exact v3) ?_)
        rw [show be + (f + 1) * pt = be + pt + f * pt by rw [Nat.add_mul, Nat.one_mul]; omega, show p + (f + 1) = p + 1 + f by omega]
        exact hlv3
      refine sX0_readNumber_78 rfl ?_
      refine sX0_readNumber_80 rfl ?_
      rcases hpt with rfl | rfl
      · refine nX0_readNumber_82 (by omega) (fun _ => ?_) (fun z => absurd rfl z)
        refine nX0_readNumber_89 ?_
        refine nX0_readNumber_90 ?_
        refine sX0_readNumber_91 ?_
        refine nX0_readNumber_93 rfl ?_
        refine sX0_readNumber_96 ?_
        exact kk' _ (fun z hz => by simp only [List.mem_cons, List.not_mem_nil, or_false] at hz; rcases hz with rfl | rfl | rfl | rfl | rfl | rfl | rfl <;> exact xlk_mem rfl)
      · refine nX0_readNumber_82 (by omega) (fun z => absurd z (by omega)) (fun _ => ?_)
        refine nX0_readNumber_85 ?_
        refine sX0_readNumber_86 ?_
        refine nX0_readNumber_90 ?_
        refine sX0_readNumber_91 ?_
        refine nX0_readNumber_93 rfl ?_
        refine sX0_readNumber_96 ?_
        exact kk' _ (fun z hz => by simp only [List.mem_cons, List.not_mem_nil, or_false] at hz; rcases hz with rfl | rfl | rfl | rfl | rfl | rfl | rfl <;> exact xlk_mem rfl)
  have exit : ∀ (x : Int32) (J1 : Nat → Nat → Int32) (lv0 : List (Nat × Value)), (∀ r, r ≠ e + 1 → r ≠ e + 2 → J1 r = J r) → NJ J1 (e + 1) 128 (nuN C m a) → (∀ z ∈ ([(0, .ref e), (1, .ref tx), (4, .ref q), (5, .int (nI (nu3 C m a))), (6, .int (nI (nuB C m a))), (7, .int x), (8, .int (nI (nu2 C m a)))] : List (Nat × Value)), z ∈ lv0) → aw g l mX0_readNumber 31 lv0 [] (xJ h J1) Q := by
    intro x J1 lv0 r1 v1 hlv
    refine aw_lv hlv ?_
    refine sX0_readNumber_31 rfl ?_
    refine sX0_readNumber_33 rfl ?_
    by_cases hE : nuE C m a = true
    · have q3 := o5 hE
      have nQ := nuQ_ge C m a
      refine nX0_readNumber_35 (by omega) (by omega) (fun z => absurd z (by omega)) (fun _ => ?_)
      refine sX0_readNumber_38 rfl ?_
      refine sX0_readNumber_39 rfl ?_
      refine jX0_readNumber_41 (by assumption) (by omega) (by omega) ?_
      rw [r1 tx (by omega) (by omega), hb _ (by omega) (by omega), (nuE_iff.mp hE).1, sb_small (by decide)]
      refine nX0_readNumber_42 ?_
      refine nX0_readNumber_44 (by omega) (by omega) (fun _ => ?_) (fun z => absurd rfl z)
      exact tail J1 _ r1 v1 (fun z hz => by simp only [List.mem_cons, List.not_mem_nil, or_false] at hz; rcases hz with rfl | rfl | rfl | rfl | rfl | rfl <;> exact xlk_mem rfl)
    · have := o7 (by simpa using hE)
      refine nX0_readNumber_35 (by omega) (by omega) (fun _ => ?_) (fun z => absurd z (by omega))
      exact tail J1 _ r1 v1 (fun z hz => by simp only [List.mem_cons, List.not_mem_nil, or_false] at hz; rcases hz with rfl | rfl | rfl | rfl | rfl | rfl <;> exact xlk_mem rfl)
  refine sX0_readNumber_0 rfl ?_
  refine sX0_readNumber_1 rfl ?_
  refine nX0_readNumber_2 ?_
  refine sX0_readNumber_3 rfl ?_
  refine jX0_readNumber_4B ht ?_
  refine mX0_readNumber_5n (Nat.le_of_ble_eq_true rfl) (by omega) (by omega) ?_
  rw [show a + (nu3 C m a - a) = nu3 C m a by omega, Nat.min_eq_left (by omega)]
  refine sX0_readNumber_8 ?_
  refine nX0_readNumber_10 ?_
  refine sX0_readNumber_11 ?_
  refine nX0_readNumber_13 ?_
  refine sX0_readNumber_14 ?_
  refine sX0_readNumber_16 rfl ?_
  refine nX0_readNumber_17 ?_
  refine mX0_readNumber_18n (Nat.le_of_ble_eq_true rfl) (by omega) (by omega) ?_
  rw [Nat.max_eq_left (Nat.zero_le _)]
  refine sX0_readNumber_21 ?_
  refine sX0_readNumber_23 rfl ?_
  refine jX0_readNumber_24 (by assumption) (by assumption) ?_
  refine nX0_readNumber_27 ?_
  refine jX0_readNumber_28 (Nat.le_of_ble_eq_true rfl) (by assumption) ?_
  refine c_setSmall5 n1 (by decide) (by decide) (by decide) (fun J1 r1 v1 => ?_)
  have hd1 : nu1 C m a - a ≤ 60 := by unfold nuD at hd; split at hd <;> omega
  refine ph (nu1 C m a - a) a 0 0 0 0 J1 _ (Or.inl rfl) (Nat.le_refl _) (by omega) (fun i y1 y2 => nt_1 (m := m) y1 (by omega)) (by decide) (by omega) (Nat.le_refl _) r1 v1 (fun z hz => by simp only [List.mem_cons, List.not_mem_nil, or_false] at hz; rcases hz with rfl | rfl | rfl | rfl | rfl | rfl | rfl <;> exact xlk_mem rfl) (fun J2 lv2 r2 v2 hlv2 => ?_)
  by_cases hP : nuP C m a = true
  · have hd2 : nu1 C m a - a + (nu2 C m a - (nu1 C m a + 1)) ≤ 60 := by unfold nuD at hd; rw [if_pos hP] at hd; exact hd
    have o6' := o6 hP
    refine aw_lv hlv2 ?_
    rw [Nat.mul_zero, Nat.add_zero, show a + (nu1 C m a - a) = nu1 C m a by omega]
    have byt : J2 tx (nu1 C m a) = nI 46 := by rw [r2 tx (by omega) (by omega), hb _ (by omega) (by omega), (nuP_iff.mp hP).1, sb_small (by decide)]
    refine sX0_readNumber_31 rfl ?_
    refine sX0_readNumber_33 rfl ?_
    refine nX0_readNumber_35 (by omega) (by omega) (fun z => absurd z (by omega)) (fun _ => ?_)
    refine sX0_readNumber_38 rfl ?_
    refine sX0_readNumber_39 rfl ?_
    refine jX0_readNumber_41 (by assumption) (by omega) (by omega) ?_
    rw [byt]
    refine nX0_readNumber_42 ?_
    refine nX0_readNumber_44 (by omega) (by omega) (fun z => absurd z (by omega)) (fun _ => ?_)
    refine sX0_readNumber_47 rfl ?_
    refine sX0_readNumber_48 rfl ?_
    refine jX0_readNumber_50 (by assumption) (by omega) (by omega) ?_
    rw [byt]
    refine nX0_readNumber_51 ?_
    refine nX0_readNumber_53 (by omega) (by omega) (fun z => absurd rfl z) (fun _ => ?_)
    refine nX0_readNumber_56 ?_
    refine sX0_readNumber_57 ?_
    refine sX0_readNumber_59 ?_
    refine nX0_readNumber_93 rfl ?_
    refine sX0_readNumber_96 ?_
    refine ph (nu2 C m a - (nu1 C m a + 1)) (nu1 C m a + 1) _ 0 1 (nu1 C m a - a) J2 _ (Or.inr rfl) (by omega) (by omega) (fun i y1 y2 => nt_2 hP y1 (by omega)) (by have := dv_lt (C := C) (N := 0) (p := a) (j := 0) (by decide) (nu1 C m a - a) (fun i y1 y2 => nt_1 (m := m) y1 (by omega)); rw [Nat.zero_add] at this; exact this) (by omega) (Nat.zero_le _) r2 v2 (fun z hz => by simp only [List.mem_cons, List.not_mem_nil, or_false] at hz; rcases hz with rfl | rfl | rfl | rfl | rfl | rfl | rfl <;> exact xlk_mem rfl) (fun J3 lv3 r3 v3 hlv3 => ?_)
    rw [show 0 + (nu2 C m a - (nu1 C m a + 1)) * 1 = nuB C m a by unfold nuB; rw [if_pos hP]; omega, show nu1 C m a + 1 + (nu2 C m a - (nu1 C m a + 1)) = nu2 C m a by omega] at hlv3
    exact exit _ J3 _ r3 (NJ_v v3 (by unfold nuN; rw [if_pos hP])) hlv3
  · have hP' : nuP C m a = false := by simpa using hP
    have e2 := o8 hP'
    rw [show 0 + (nu1 C m a - a) * 0 = nuB C m a by unfold nuB; rw [if_neg hP]; omega, show a + (nu1 C m a - a) = nu2 C m a by omega] at hlv2
    exact exit _ J2 _ r2 (NJ_v v2 (by unfold nuN; rw [if_neg hP])) hlv2
end Nums1
