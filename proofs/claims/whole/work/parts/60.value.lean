/-- a Value at q and what lies behind it -/
def CV (h : xH) (q : Nat) : Prop := (xT h q).1 = 9 ∧ (xP h q 1 = some (q + 1) ∧ xP h q 2 = some (q + 3) ∧ xP h q 3 = some (q + 5)) ∧ CN h (q + 1) 18 ∧ CN h (q + 3) 18 ∧ xT h (q + 5) = (100, 8)
def VJ (J : Nat → Nat → Int32) (q : Nat) (x : Vl) : Prop := J q 0 = x.1 ∧ NJ J (q + 1) 18 x.2.1 ∧ NJ J (q + 3) 18 x.2.2.1 ∧ ∀ j, j < 8 → J (q + 5) j = x.2.2.2 j
theorem CV_tags {h : xH} {q : Nat} (hq : CV h q) : ∀ d, 0 < d → d < 6 → (xT h (q + d)).1 = 5 ∨ (xT h (q + d)).1 = 100 := by
  obtain ⟨t1, -, ⟨a1, -, a3⟩, ⟨b1, -, b3⟩, t5⟩ := hq
  intro d h0 h6
  have : d = 1 ∨ d = 2 ∨ d = 3 ∨ d = 4 ∨ d = 5 := by omega
  rcases this with rfl | rfl | rfl | rfl | rfl
  · exact Or.inl a1
  · exact Or.inr (congrArg Prod.fst a3)
  · exact Or.inl b1
  · exact Or.inr (congrArg Prod.fst b3)
  · exact Or.inr (congrArg Prod.fst t5)
theorem CB_tags {h : xH} {e : Nat} (he : CB h e) : ∀ d, 0 < d → d < 13 → (xT h (e + d)).1 = 5 ∨ (xT h (e + d)).1 = 100 := by
  obtain ⟨-, -, ⟨⟨a1, -, a2⟩, ⟨b1, -, b2⟩, ⟨c1, -, c2⟩, ⟨d1, -, d2⟩, ⟨e1, -, e2⟩⟩, t11, t12⟩ := he
  intro d h0 h6
  have : d = 1 ∨ d = 2 ∨ d = 3 ∨ d = 4 ∨ d = 5 ∨ d = 6 ∨ d = 7 ∨ d = 8 ∨ d = 9 ∨ d = 10 ∨ d = 11 ∨ d = 12 := by omega
  rcases this with rfl | rfl | rfl | rfl | rfl | rfl | rfl | rfl | rfl | rfl | rfl | rfl
  · exact Or.inl a1
  · exact Or.inr (congrArg Prod.fst a2)
  · exact Or.inl b1
  · exact Or.inr (congrArg Prod.fst b2)
  · exact Or.inl c1
  · exact Or.inr (congrArg Prod.fst c2)
  · exact Or.inl d1
  · exact Or.inr (congrArg Prod.fst d2)
  · exact Or.inl e1
  · exact Or.inr (congrArg Prod.fst e2)
  · exact Or.inr (congrArg Prod.fst t11)
  · exact Or.inr (congrArg Prod.fst t12)
theorem CV_far {h : xH} {q p : Nat} (hq : CV h q) (hp : CV h p) (hne : p ≠ q) : q + 6 ≤ p ∨ p + 6 ≤ q := by
  have z1 := CV_tags hq
  have z2 := CV_tags hp
  have e1 := hq.1
  have e2 := hp.1
  rcases Nat.lt_or_ge q p with c | c
  · rcases Nat.lt_or_ge p (q + 6) with c2 | c2
    · have := z1 (p - q) (by omega) (by omega)
      rw [show q + (p - q) = p by omega] at this
      omega
    · exact Or.inl c2
  · rcases Nat.lt_or_ge q (p + 6) with c2 | c2
    · have := z2 (q - p) (by omega) (by omega)
      rw [show p + (q - p) = q by omega] at this
      omega
    · exact Or.inr c2
theorem CV_B {h : xH} {q e : Nat} (hq : CV h q) (he : CB h e) : q + 6 ≤ e ∨ e + 13 ≤ q := by
  have z1 := CV_tags hq
  have z2 := CB_tags he
  have e1 := hq.1
  have e2 := he.1
  rcases Nat.lt_or_ge q e with c | c
  · rcases Nat.lt_or_ge e (q + 6) with c2 | c2
    · have := z1 (e - q) (by omega) (by omega)
      rw [show q + (e - q) = e by omega] at this
      omega
    · exact Or.inl c2
  · rcases Nat.lt_or_ge q (e + 13) with c2 | c2
    · rcases Nat.eq_or_lt_of_le c with c3 | c3
      · rw [c3] at e2; omega
      · have := z2 (q - e) (by omega) (by omega)
        rw [show e + (q - e) = q by omega] at this
        omega
    · exact Or.inr c2
theorem VJ_c {J J' : Nat → Nat → Int32} {q : Nat} {x : Vl} (e : ∀ r, q ≤ r → r < q + 6 → J' r = J r) (hx : VJ J q x) : VJ J' q x := by
  obtain ⟨h1, h2, h3, h4⟩ := hx
  refine ⟨by rw [e q (by omega) (by omega)]; exact h1, NJ_c (e _ (by omega) (by omega)) (e _ (by omega) (by omega)) h2, NJ_c (e _ (by omega) (by omega)) (e _ (by omega) (by omega)) h3, fun j hj => by rw [e _ (by omega) (by omega)]; exact h4 j hj⟩
theorem VJ_v {J : Nat → Nat → Int32} {q : Nat} {x y : Vl} (hx : VJ J q x) (e : veq x y) : VJ J q y := by
  obtain ⟨h1, h2, h3, h4⟩ := hx
  exact ⟨h1.trans e.1, NJ_v h2 e.2.1, NJ_v h3 e.2.2.1, fun j hj => (h4 j hj).trans (e.2.2.2 j hj)⟩
theorem pOk_c {p q : Nat → Int32} (e : ∀ k, k < 8 → p k = q k) (h : pOk p) : pOk q := fun k hk => by rw [← e k hk]; exact h k hk
theorem y1024 : 2 ^ 1024 * 4 ≤ yB 128 := by rw [yB_two]; decide +kernel
theorem y512 : 2 ^ 512 ≤ yB 18 := by rw [yB_two]; decide +kernel
section Value
variable {g : xG} {l : Launch} {h : xH} {J : Nat → Nat → Int32} {Q : Option Value → xH → Prop}
theorem c_copy9 {q p : Nat} {x : Vl} (hq : CV h q) (hp : CV h p) (hne : p ≠ q) (hx : VJ J p x) (k : ∀ J', (∀ r, r < q ∨ q + 6 ≤ r → J' r = J r) → VJ J' q x → Q none (xJ h J')) : ac g l mX9_copy [.ref q, .ref p] (xJ h J) Q := by
  refine ac_of (by decide) (Nat.le_of_ble_eq_true rfl) ?_
  have far := CV_far hq hp hne
  obtain ⟨a1, ⟨a2, a3, a4⟩, a5, a6, a7⟩ := hq
  obtain ⟨b1, ⟨b2, b3, b4⟩, b5, b6, b7⟩ := hp
  have c1 := a5.1
  have c2 := a6.1
  obtain ⟨x1, x2, x3, x4⟩ := hx
  refine sX9_copy_0 rfl ?_
  refine sX9_copy_1 rfl ?_
  refine jX9_copy_2 (by assumption) ?_
  rw [x1]
  refine jX9_copy_5 (by assumption) ?_
  refine sX9_copy_8 rfl ?_
  refine jX9_copy_9 (by assumption) (by assumption) ?_
  refine sX9_copy_12 rfl ?_
  refine jX9_copy_13 (by assumption) (by assumption) ?_
  refine jX9_copy_16 (Nat.le_of_ble_eq_true rfl) (by assumption) ?_
  obtain ⟨J1, hJ1⟩ : ∃ J1, J1 = xup2 J q 0 x.1 := ⟨_, rfl⟩
  have o1 : ∀ r, r ≠ q → J1 r = J r := fun r hr => by rw [hJ1, xup2_r hr]
  have s1 : J1 q 0 = x.1 := by rw [hJ1, xup2_s]
  rw [← hJ1]
  refine c_copy5 a5 b5 (by omega) (by omega) (by omega) (NJ_c (o1 _ (by omega)) (o1 _ (by omega)) x2) (NJ_lt x2) (fun J2 o2 n2 => ?_)
  refine sX9_copy_19 rfl ?_
  refine jX9_copy_20 (by assumption) (by assumption) ?_
  refine sX9_copy_23 rfl ?_
  refine jX9_copy_24 (by assumption) (by assumption) ?_
  refine jX9_copy_27 (Nat.le_of_ble_eq_true rfl) (by assumption) ?_
  refine c_copy5 a6 b6 (by omega) (by omega) (by omega) (NJ_c ((o2 _ (by omega) (by omega)).trans (o1 _ (by omega))) ((o2 _ (by omega) (by omega)).trans (o1 _ (by omega))) x3) (NJ_lt x3) (fun J3 o3 n3 => ?_)
  refine sX9_copy_30 rfl ?_
  refine jX9_copy_31 (by assumption) (by assumption) ?_
  refine nX9_copy_34 ?_
  refine sX9_copy_35 rfl ?_
  refine jX9_copy_36 (by assumption) (by assumption) ?_
  refine nX9_copy_39 ?_
  refine nX9_copy_40 ?_
  refine sX9_copy_42 (kd := 100) (Nat.le_of_ble_eq_true rfl) (Or.inl rfl) (congrArg Prod.fst b7) (congrArg Prod.fst a7) (nI_pos (by decide)) (nI_pos (by decide)) (nI_pos (by decide)) ?_ ?_ (fun e => by cases e) ?_
  · show (nI 0).toNatClampNeg + (nI 8).toNatClampNeg ≤ (xT h (p + 5)).2
    rw [b7, nI_clamp (by decide), nI_clamp (by decide)]; exact Nat.le_refl _
  · show (nI 0).toNatClampNeg + (nI 8).toNatClampNeg ≤ (xT h (q + 5)).2
    rw [a7, nI_clamp (by decide), nI_clamp (by decide)]; exact Nat.le_refl _
  rw [nI_clamp (show 0 < 2 ^ 31 by decide), nI_clamp (show 8 < 2 ^ 31 by decide)]
  show aw g l mX9_copy 45 _ [] (xJ h (va_up J3 (q + 5) (va_cpy (J3 (p + 5)) (J3 (q + 5)) 0 0 8))) Q
  have o3' : ∀ r, r ≠ q → r ≠ q + 1 → r ≠ q + 2 → r ≠ q + 3 → r ≠ q + 4 → J3 r = J r := fun r z0 z1 z2 z3 z4 => by rw [o3 r z3 z4, o2 r z1 z2, o1 r z0]
  refine sX9_copy_45 (k _ (fun r hr => ?_) ⟨?_, NJ_c (vup_n (by omega)) (vup_n (by omega)) (NJ_c (o3 _ (by omega) (by omega)) (o3 _ (by omega) (by omega)) n2), NJ_c (vup_n (by omega)) (vup_n (by omega)) n3, fun j hj => ?_⟩)
  · rw [vup_n (by omega)]; exact o3' r (by omega) (by omega) (by omega) (by omega) (by omega)
  · rw [vup_n (by omega), o3 _ (by omega) (by omega), o2 _ (by omega) (by omega)]; exact s1
  · rw [vup_s, pk_cpy_in (by omega) (by omega), show 0 + (j - 0) = j by omega, o3' _ (by omega) (by omega) (by omega) (by omega) (by omega)]
    exact x4 j hj
theorem c_losePowers {q n : Nat} (hq : CV h q) (hn : n < 2 ^ 30) (k : ∀ J', (∀ r, r ≠ q + 5 → J' r = J r) → (∀ j, j < 8 → J' (q + 5) j = if n ≤ j then nI 0 else J (q + 5) j) → Q none (xJ h J')) : ac g l mX9_losePowers [.ref q, .int (nI n)] (xJ h J) Q := by
  refine ac_of (by decide) (Nat.le_of_ble_eq_true rfl) ?_
  obtain ⟨a1, ⟨a2, a3, a4⟩, a5, a6, a7⟩ := hq
  refine sX9_losePowers_0 rfl ?_
  refine nX9_losePowers_1 ?_
  refine mX9_losePowers_2n (Nat.le_of_ble_eq_true rfl) (by omega) (by omega) ?_
  rw [Nat.max_eq_left (Nat.zero_le _)]
  refine sX9_losePowers_5 ?_
  suffices H : ∀ t i J1 lv0, n ≤ i → (i + t = 8 ∨ 8 ≤ i ∧ t = 0) → i < 2 ^ 30 → (∀ r, r ≠ q + 5 → J1 r = J r) → (∀ j, j < 8 → J1 (q + 5) j = if n ≤ j ∧ j < i then nI 0 else J (q + 5) j) → (∀ z ∈ ([(0, .ref q), (2, .int (nI i))] : List (Nat × Value)), z ∈ lv0) → aw g l mX9_losePowers 6 lv0 [] (xJ h J1) Q from H (8 - n) n J _ (by omega) (by omega) (by omega) (fun _ _ => rfl) (fun j hj => by rw [if_neg (by omega)]) (fun z hz => by
      simp only [List.mem_cons, List.not_mem_nil, or_false] at hz
      rcases hz with rfl | rfl <;> exact xlk_mem rfl)
  intro t
  induction t with
  | zero =>
    intro i J1 lv0 h1 h2 h3 ho hP hlv
    refine aw_lv hlv ?_
    refine sX9_losePowers_6 rfl ?_
    refine nX9_losePowers_7 ?_
    refine nX9_losePowers_9 (by omega) (by omega) (fun _ => ?_) (fun hc => absurd hc (by omega))
    refine sX9_losePowers_25 (k J1 ho (fun j hj => ?_))
    rw [hP j hj]
    by_cases z : n ≤ j
    · rw [if_pos z, if_pos ⟨z, by omega⟩]
    · rw [if_neg z, if_neg (fun y => z y.1)]
  | succ t ih =>
    intro i J1 lv0 h1 h2 h3 ho hP hlv
    refine aw_lv hlv ?_
    refine sX9_losePowers_6 rfl ?_
    refine nX9_losePowers_7 ?_
    refine nX9_losePowers_9 (by omega) (by omega) (fun hc => absurd hc (by omega)) (fun _ => ?_)
    refine sX9_losePowers_12 rfl ?_
    refine jX9_losePowers_13 (by assumption) (by assumption) ?_
    refine sX9_losePowers_16 rfl ?_
    refine nX9_losePowers_17 ?_
    refine jX9_losePowers_18 (by assumption) (by omega) (by omega) ?_
    refine nX9_losePowers_19 rfl ?_
    refine sX9_losePowers_22 ?_
    refine ih (i + 1) _ _ (by omega) (by omega) (by omega) (fun r hr => by rw [xup2_r hr]; exact ho r hr) (fun j hj => ?_) (fun z hz => by
      simp only [List.mem_cons, List.not_mem_nil, or_false] at hz
      rcases hz with rfl | rfl <;> exact xlk_mem rfl)
    by_cases z : j = i
    · subst z; rw [xup2_s, if_pos ⟨h1, by omega⟩]
    · rw [xup2_n z, hP j hj]
      by_cases y : n ≤ j ∧ j < i
      · rw [if_pos y, if_pos ⟨y.1, by omega⟩]
      · rw [if_neg y, if_neg (by omega)]
theorem c_hasPowersOf {q p : Nat} (hq : CV h q) (hp : CV h p) (k1 : pEq (J (q + 5)) (J (p + 5)) → Q (some (.int 1)) (xJ h J)) (k0 : ¬ pEq (J (q + 5)) (J (p + 5)) → Q (some (.int 0)) (xJ h J)) : ac g l mX9_hasPowersOf [.ref q, .ref p] (xJ h J) Q := by
  refine ac_of (by decide) (Nat.le_of_ble_eq_true rfl) ?_
  obtain ⟨a1, ⟨a2, a3, a4⟩, a5, a6, a7⟩ := hq
  obtain ⟨b1, ⟨b2, b3, b4⟩, b5, b6, b7⟩ := hp
  refine nX9_hasPowersOf_0 ?_
  refine sX9_hasPowersOf_1 ?_
  suffices H : ∀ t i, i + t = 8 → (∀ j, j < i → J (q + 5) j = J (p + 5) j) → aw g l mX9_hasPowersOf 2 [(0, .ref q), (1, .ref p), (2, .int (nI i))] [] (xJ h J) Q from H 8 0 rfl (fun j hj => absurd hj (by omega))
  intro t
  induction t with
  | zero =>
    intro i hi hz
    obtain rfl : i = 8 := by omega
    refine sX9_hasPowersOf_2 rfl ?_
    refine nX9_hasPowersOf_3 ?_
    refine nX9_hasPowersOf_5 (by omega) (by omega) (fun _ => ?_) (fun hc => absurd hc (by omega))
    refine sX9_hasPowersOf_31 ?_
    exact sX9_hasPowersOf_32 (Or.inr rfl) (k1 (fun j hj => hz j hj))
  | succ t ih =>
    intro i hi hz
    refine sX9_hasPowersOf_2 rfl ?_
    refine nX9_hasPowersOf_3 ?_
    refine nX9_hasPowersOf_5 (by omega) (by omega) (fun hc => absurd hc (by omega)) (fun _ => ?_)
    refine sX9_hasPowersOf_8 rfl ?_
    refine jX9_hasPowersOf_9 (by assumption) (by assumption) ?_
    refine sX9_hasPowersOf_12 rfl ?_
    refine jX9_hasPowersOf_13 (by assumption) (by omega) (by omega) ?_
    refine sX9_hasPowersOf_14 rfl ?_
    refine jX9_hasPowersOf_15 (by assumption) (by assumption) ?_
    refine sX9_hasPowersOf_18 rfl ?_
    refine jX9_hasPowersOf_19 (by assumption) (by omega) (by omega) ?_
    refine sX9_hasPowersOf_20 (fun hc => ?_) (fun hc => ?_)
    · refine nX9_hasPowersOf_25 rfl ?_
      refine sX9_hasPowersOf_28 ?_
      refine ih (i + 1) (by omega) (fun j hj => ?_)
      by_cases z : j = i
      · subst z; exact hc
      · exact hz j (by omega)
    · refine sX9_hasPowersOf_23 ?_
      exact sX9_hasPowersOf_24 (Or.inl rfl) (k0 (fun z => hc (z i (by omega))))
theorem c_combinePowers {q p : Nat} {t o : Int32} (hq : CV h q) (hp : CV h p) (k1 : ∀ J', (∀ r, r ≠ q + 5 → J' r = J r) → pOk (fun j => t * J (q + 5) j + o * J (p + 5) j) → (∀ j, j < 8 → J' (q + 5) j = t * J (q + 5) j + o * J (p + 5) j) → Q (some (.int 1)) (xJ h J')) (k0 : ∀ J', (∀ r, r ≠ q + 5 → J' r = J r) → ¬ pOk (fun j => t * J (q + 5) j + o * J (p + 5) j) → Q (some (.int 0)) (xJ h J')) : ac g l mX9_combinePowers [.ref q, .int t, .ref p, .int o] (xJ h J) Q := by
  refine ac_of (by decide) (Nat.le_of_ble_eq_true rfl) ?_
  obtain ⟨a1, ⟨a2, a3, a4⟩, a5, a6, a7⟩ := hq
  obtain ⟨b1, ⟨b2, b3, b4⟩, b5, b6, b7⟩ := hp
  refine nX9_combinePowers_0 ?_
  refine sX9_combinePowers_1 ?_
  suffices H : ∀ n i J1 lv0, i + n = 8 → (∀ r, r ≠ q + 5 → J1 r = J r) → (∀ j, j < i → J1 (q + 5) j = t * J (q + 5) j + o * J (p + 5) j) → (∀ j, i ≤ j → J1 (q + 5) j = J (q + 5) j) → (∀ j, j < i → ¬ t * J (q + 5) j + o * J (p + 5) j < -99 ∧ ¬ 99 < t * J (q + 5) j + o * J (p + 5) j) → (∀ z ∈ ([(0, .ref q), (1, .int t), (2, .ref p), (3, .int o), (4, .int (nI i))] : List (Nat × Value)), z ∈ lv0) → aw g l mX9_combinePowers 3 lv0 [] (xJ h J1) Q from H 8 0 J _ rfl (fun _ _ => rfl) (fun j hj => absurd hj (by omega)) (fun _ _ => rfl) (fun j hj => absurd hj (by omega)) (fun z hz => by
      simp only [List.mem_cons, List.not_mem_nil, or_false] at hz
      rcases hz with rfl | rfl | rfl | rfl | rfl <;> exact xlk_mem rfl)
  intro n
  induction n with
  | zero =>
    intro i J1 lv0 hi ho hP hR hO hlv
    refine aw_lv hlv ?_
    obtain rfl : i = 8 := by omega
    refine sX9_combinePowers_3 rfl ?_
    refine nX9_combinePowers_5 ?_
    refine nX9_combinePowers_7 (by omega) (by omega) (fun _ => ?_) (fun hc => absurd hc (by omega))
    refine sX9_combinePowers_68 ?_
    exact sX9_combinePowers_69 (Or.inr rfl) (k1 J1 ho (fun j hj => hO j hj) hP)
  | succ n ih =>
    intro i J1 lv0 hi ho hP hR hO hlv
    refine aw_lv hlv ?_
    have hRp : J1 (p + 5) i = J (p + 5) i := by
      by_cases z : p + 5 = q + 5
      · rw [z]; exact hR i (Nat.le_refl _)
      · rw [ho _ z]
    obtain ⟨w, hw⟩ : ∃ w, w = t * J (q + 5) i + o * J (p + 5) i := ⟨_, rfl⟩
    refine sX9_combinePowers_3 rfl ?_
    refine nX9_combinePowers_5 ?_
    refine nX9_combinePowers_7 (by omega) (by omega) (fun hc => absurd hc (by omega)) (fun _ => ?_)
    refine sX9_combinePowers_10 rfl ?_
    refine jX9_combinePowers_11 (by assumption) (by assumption) ?_
    refine sX9_combinePowers_14 rfl ?_
    refine sX9_combinePowers_16 rfl ?_
    refine sX9_combinePowers_17 rfl ?_
    refine jX9_combinePowers_18 (by assumption) (by assumption) ?_
    refine sX9_combinePowers_21 rfl ?_
    refine jX9_combinePowers_23 (by assumption) (by omega) (by omega) ?_
    rw [hR i (Nat.le_refl _)]
    refine sX9_combinePowers_24 ?_
    refine sX9_combinePowers_25 rfl ?_
    refine sX9_combinePowers_26 rfl ?_
    refine jX9_combinePowers_27 (by assumption) (by assumption) ?_
    refine sX9_combinePowers_30 rfl ?_
    refine jX9_combinePowers_32 (by assumption) (by omega) (by omega) ?_
    rw [hRp]
    refine sX9_combinePowers_33 ?_
    refine sX9_combinePowers_34 ?_
    rw [← hw]
    refine jX9_combinePowers_35 (by assumption) (by omega) (by omega) ?_
    refine sX9_combinePowers_36 rfl ?_
    refine jX9_combinePowers_37 (by assumption) (by assumption) ?_
    refine sX9_combinePowers_40 rfl ?_
    refine jX9_combinePowers_42 (by assumption) (by omega) (by omega) ?_
    rw [xup2_s]
    refine sX9_combinePowers_43 ?_
    have ho2 : ∀ r, r ≠ q + 5 → xup2 J1 (q + 5) i w r = J r := fun r hr => by rw [xup2_r hr]; exact ho r hr
    have bad : ¬ (¬ w < -99 ∧ ¬ 99 < w) → aw g l mX9_combinePowers 60 [(0, .ref q), (1, .int t), (2, .ref p), (3, .int o), (4, .int (nI i))] [] (xJ h (xup2 J1 (q + 5) i w)) Q := by
      intro hb
      refine sX9_combinePowers_60 ?_
      exact sX9_combinePowers_61 (Or.inl rfl) (k0 _ ho2 (fun hz => hb (by rw [hw]; exact hz i (by omega))))
    refine sX9_combinePowers_45 (fun hc => bad (fun z => z.1 hc)) (fun hc => ?_)
    refine sX9_combinePowers_48 rfl ?_
    refine jX9_combinePowers_49 (by assumption) (by assumption) ?_
    refine sX9_combinePowers_52 rfl ?_
    refine jX9_combinePowers_54 (by assumption) (by omega) (by omega) ?_
    rw [xup2_s]
    refine sX9_combinePowers_55 ?_
    refine sX9_combinePowers_57 (fun hc2 => ?_) (fun hc2 => bad (fun z => z.2 (Int32.not_le.mp hc2)))
    refine nX9_combinePowers_62 rfl ?_
    refine sX9_combinePowers_65 ?_
    refine ih (i + 1) _ _ (by omega) ho2 (fun j hj => ?_) (fun j hj => ?_) (fun j hj => ?_) (fun z hz => by
      simp only [List.mem_cons, List.not_mem_nil, or_false] at hz
      rcases hz with rfl | rfl | rfl | rfl | rfl <;> exact xlk_mem rfl)
    · by_cases z : j = i
      · subst z; rw [xup2_s]; exact hw
      · rw [xup2_n z]; exact hP j (by omega)
    · rw [xup2_n (by omega)]; exact hR j (by omega)
    · by_cases z : j = i
      · subst z; rw [← hw]; exact ⟨hc, Int32.not_lt.mpr hc2⟩
      · exact hO j (by omega)
theorem c_setBase {q n : Nat} (hq : CV h q) (hn : n < 8) (k : ∀ J', (∀ r, r < q ∨ q + 6 ≤ r → J' r = J r) → VJ J' q (1, 1, 1, va_up (fun _ => 0) n 1) → Q none (xJ h J')) : ac g l mX9_setBase [.ref q, .int (nI n)] (xJ h J) Q := by
  refine ac_of (by decide) (Nat.le_of_ble_eq_true rfl) ?_
  have hq0 := hq
  obtain ⟨a1, ⟨a2, a3, a4⟩, a5, a6, a7⟩ := hq
  have c1 := a5.1
  have c2 := a6.1
  refine sX9_setBase_0 rfl ?_
  refine nX9_setBase_1 ?_
  refine jX9_setBase_2 (by assumption) ?_
  refine sX9_setBase_5 rfl ?_
  refine jX9_setBase_6 (by assumption) (by assumption) ?_
  refine nX9_setBase_9 ?_
  refine jX9_setBase_10 (Nat.le_of_ble_eq_true rfl) (by assumption) ?_
  obtain ⟨J1, hJ1⟩ : ∃ J1, J1 = xup2 J q 0 (nI 1) := ⟨_, rfl⟩
  have o1 : ∀ r, r ≠ q → J1 r = J r := fun r hr => by rw [hJ1, xup2_r hr]
  have s1 : J1 q 0 = 1 := by rw [hJ1, xup2_s]; rfl
  rw [← hJ1]
  refine c_setSmall5 a5 (by omega) (by omega) (by omega) (fun J2 o2 n2 => ?_)
  refine sX9_setBase_13 rfl ?_
  refine jX9_setBase_14 (by assumption) (by assumption) ?_
  refine nX9_setBase_17 ?_
  refine jX9_setBase_18 (Nat.le_of_ble_eq_true rfl) (by assumption) ?_
  refine c_setSmall5 a6 (by omega) (by omega) (by omega) (fun J3 o3 n3 => ?_)
  refine sX9_setBase_21 rfl ?_
  refine nX9_setBase_22 ?_
  refine jX9_setBase_23 (Nat.le_of_ble_eq_true rfl) (by assumption) ?_
  refine c_losePowers hq0 (by omega) (fun J4 o4 n4 => ?_)
  refine sX9_setBase_26 rfl ?_
  refine nX9_setBase_27 (by omega) ?_
  refine sX9_setBase_30 rfl ?_
  refine nX9_setBase_31 ?_
  refine nX9_setBase_33 (by omega) (by omega) (fun hc => absurd hc (by omega)) (fun _ => ?_)
  refine sX9_setBase_36 rfl ?_
  refine jX9_setBase_37 (by assumption) (by assumption) ?_
  refine sX9_setBase_40 rfl ?_
  refine nX9_setBase_41 ?_
  refine jX9_setBase_42 (by assumption) (by omega) (by omega) ?_
  refine sX9_setBase_43 (k _ (fun r hr => ?_) ⟨?_, NJ_c (xup2_r (by omega)) (xup2_r (by omega)) (NJ_c (o4 _ (by omega)) (o4 _ (by omega)) (NJ_c (o3 _ (by omega) (by omega)) (o3 _ (by omega) (by omega)) n2)), NJ_c (xup2_r (by omega)) (xup2_r (by omega)) (NJ_c (o4 _ (by omega)) (o4 _ (by omega)) n3), fun j hj => ?_⟩)
  · rw [xup2_r (by omega), o4 r (by omega), o3 r (by omega) (by omega), o2 r (by omega) (by omega), o1 r (by omega)]
  · rw [xup2_r (by omega), o4 _ (by omega), o3 _ (by omega) (by omega), o2 _ (by omega) (by omega), s1]
  · show xup2 J4 (q + 5) n (nI 1) (q + 5) j = va_up (fun _ => (0 : Int32)) n 1 j
    by_cases z : j = n
    · subst z; rw [xup2_s, vup_s]; rfl
    · rw [xup2_n z, vup_n z, n4 j hj, if_pos (Nat.zero_le _)]; rfl
theorem c_putInto {e q t d B : Nat} (hB : CB h e) (hq : CV h q) (hb : J e 0 = nI B) (hb2 : B ≤ 512) (ht : NJ J (e + 1) 128 t) (hd : NJ J (e + 3) 128 d) (k0 : ∀ J', ¬ (2 ^ B ≤ t ∨ 2 ^ B ≤ d) → (∀ r, r < q ∨ q + 5 ≤ r → J' r = J r) → J' q 0 = J e 3 → NJ J' (q + 1) 18 t → NJ J' (q + 3) 18 d → Q (some (.int (nI 0))) (xJ h J')) (k9 : (2 ^ B ≤ t ∨ 2 ^ B ≤ d) → Q (some (.int (nI 9))) (xJ h J)) : ac g l mX0_putInto [.ref e, .ref q] (xJ h J) Q := by
  refine ac_of (by decide) (Nat.le_of_ble_eq_true rfl) ?_
  have far := CV_B hq hB
  obtain ⟨t1, ⟨p1, p2, p4, p5, p6, p7, p8⟩, ⟨d1, d2, d3, d4, d5⟩, t11, t12⟩ := hB
  obtain ⟨a1, ⟨a2, a3, a4⟩, a5, a6, a7⟩ := hq
  have f1 := d1.1
  have f2 := d2.1
  have c1 := a5.1
  have c2 := a6.1
  have large : (2 ^ B ≤ t ∨ 2 ^ B ≤ d) → aw g l mX0_putInto 28 (lv_args 0 [.ref e, .ref q]) [] (xJ h J) Q := by
    intro hc
    refine nX0_putInto_28 ?_
    exact sX0_putInto_30 (k9 hc)
  refine sX0_putInto_0 rfl ?_
  refine jX0_putInto_1 (by assumption) (by assumption) ?_
  refine jX0_putInto_4 (Nat.le_of_ble_eq_true rfl) (by assumption) ?_
  refine c_bitLength d1 (by omega) ht (fun L1 hL1 hL2 => ?_)
  show aw g l mX0_putInto 7 _ [.int (nI L1)] (xJ h J) Q
  refine sX0_putInto_7 rfl ?_
  refine jX0_putInto_8 (by assumption) ?_
  rw [hb]
  refine nX0_putInto_11 (by omega) (by omega) (fun hc => large (Or.inl ((zL_le hL1).mp (by omega)))) (fun hc => ?_)
  refine sX0_putInto_14 rfl ?_
  refine jX0_putInto_15 (by assumption) (by assumption) ?_
  refine jX0_putInto_18 (Nat.le_of_ble_eq_true rfl) (by assumption) ?_
  refine c_bitLength d2 (by omega) hd (fun L3 hL3 hL4 => ?_)
  show aw g l mX0_putInto 21 _ [.int (nI L3)] (xJ h J) Q
  refine sX0_putInto_21 rfl ?_
  refine jX0_putInto_22 (by assumption) ?_
  rw [hb]
  refine nX0_putInto_25 (by omega) (by omega) (fun hc2 => ?_) (fun hc2 => large (Or.inr ((zL_le hL3).mp (by omega))))
  have l1 : t < 2 ^ B := Nat.not_le.mp (fun z => absurd ((zL_le hL1).mpr z) (by omega))
  have l2 : d < 2 ^ B := Nat.not_le.mp (fun z => absurd ((zL_le hL3).mpr z) (by omega))
  have lb : 2 ^ B ≤ 2 ^ 512 := Nat.pow_le_pow_right (by decide) hb2
  have y5 := y512
  refine sX0_putInto_31 rfl ?_
  refine sX0_putInto_32 rfl ?_
  refine jX0_putInto_33 (by assumption) ?_
  refine jX0_putInto_36 (by assumption) ?_
  refine sX0_putInto_39 rfl ?_
  refine jX0_putInto_40 (by assumption) (by assumption) ?_
  refine sX0_putInto_43 rfl ?_
  refine jX0_putInto_44 (by assumption) (by assumption) ?_
  refine jX0_putInto_47 (Nat.le_of_ble_eq_true rfl) (by assumption) ?_
  obtain ⟨J1, hJ1⟩ : ∃ J1, J1 = xup2 J q 0 (J e 3) := ⟨_, rfl⟩
  have o1 : ∀ r, r ≠ q → J1 r = J r := fun r hr => by rw [hJ1, xup2_r hr]
  have s1 : J1 q 0 = J e 3 := by rw [hJ1, xup2_s]
  rw [← hJ1]
  refine c_copy5 a5 d1 (by omega) (by omega) (by omega) (NJ_c (o1 _ (by omega)) (o1 _ (by omega)) ht) (Nat.lt_of_lt_of_le l1 (Nat.le_trans lb y5)) (fun J2 o2 n2 => ?_)
  refine sX0_putInto_50 rfl ?_
  refine jX0_putInto_51 (by assumption) (by assumption) ?_
  refine sX0_putInto_54 rfl ?_
  refine jX0_putInto_55 (by assumption) (by assumption) ?_
  refine jX0_putInto_58 (Nat.le_of_ble_eq_true rfl) (by assumption) ?_
  refine c_copy5 a6 d2 (by omega) (by omega) (by omega) (NJ_c ((o2 _ (by omega) (by omega)).trans (o1 _ (by omega))) ((o2 _ (by omega) (by omega)).trans (o1 _ (by omega))) hd) (Nat.lt_of_lt_of_le l2 (Nat.le_trans lb y5)) (fun J3 o3 n3 => ?_)
  refine nX0_putInto_61 ?_
  refine sX0_putInto_62 (k0 J3 (fun z => by omega) (fun r hr => ?_) ?_ (NJ_c (o3 _ (by omega) (by omega)) (o3 _ (by omega) (by omega)) n2) n3)
  · rw [o3 r (by omega) (by omega), o2 r (by omega) (by omega), o1 r (by omega)]
  · rw [o3 _ (by omega) (by omega), o2 _ (by omega) (by omega), s1]
end Value
