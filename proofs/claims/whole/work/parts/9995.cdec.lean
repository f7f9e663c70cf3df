/-! ===== the class: digits, point, ends, alike, power ===== -/
/-- how many decimal digits -/
def dg (v n : Nat) : Prop := 1 ≤ n ∧ v < 10 ^ n ∧ (n = 1 ∨ 10 ^ (n - 1) ≤ v)
theorem dg_un {v n n' : Nat} (h : dg v n) (h' : dg v n') : n = n' := by
  obtain ⟨a1, a2, a3⟩ := h
  obtain ⟨b1, b2, b3⟩ := h'
  have mono : ∀ {p q : Nat}, 10 ^ p < 10 ^ q → p < q := fun {p q} z => by
    rcases Nat.lt_or_ge p q with y | y
    · exact y
    · have := Nat.pow_le_pow_right (show 0 < 10 by decide) y
      exact absurd (Nat.lt_of_lt_of_le z this) (Nat.lt_irrefl _)
  have k1 : n - 1 < n' := by
    rcases a3 with z | z
    · omega
    · exact mono (Nat.lt_of_le_of_lt z b2)
  have k2 : n' - 1 < n := by
    rcases b3 with z | z
    · omega
    · exact mono (Nat.lt_of_le_of_lt z a2)
  omega
def d162 (v : Nat) : Prop := v < 10 ^ 162
theorem d162_of {v : Nat} (h : v < 2 ^ 512) : d162 v := Nat.lt_of_lt_of_le h (by decide +kernel)
theorem dvs (v i : Nat) : v / 10 ^ (i + 1) = v / 10 ^ i / 10 := by rw [Nat.pow_succ, Nat.div_div_eq_div_mul]
def pv2 (p : Nat) (V : Vl) : Nat := if p = 0 then V.2.1 else V.2.2.1
theorem pv2_lt {p : Nat} {V : Vl} (h : vWf V) : pv2 p V < 2 ^ 512 := by
  unfold pv2; split
  · exact h.2.1
  · exact h.2.2.1
section CDec
variable {g : xG} {l : Launch} {h : xH} {J : Nat → Nat → Int32} {Q : Option Value → xH → Prop} {x d : Nat} {V : Vl}
theorem c_part {q p : Nat} (hV : CV h q) (hp : p < 2) (k : Q (some (.ref (if p = 0 then q + 1 else q + 3))) (xJ h J)) : ac g l mX9_part [.ref q, .int (nI p)] (xJ h J) Q := by
  refine ac_of (by decide) (Nat.le_of_ble_eq_true rfl) ?_
  obtain ⟨t9, ⟨v1, v2, v3⟩, -⟩ := hV
  refine sX9_part_0 rfl ?_
  refine nX9_part_1 (by omega) (fun z => ?_) (fun z => ?_)
  · rw [if_neg z] at k
    refine sX9_part_11 rfl ?_
    refine jX9_part_12 (by assumption) (by assumption) ?_
    exact sX9_part_15 k
  · rw [if_pos z] at k
    refine sX9_part_4 rfl ?_
    refine jX9_part_5 (by assumption) (by assumption) ?_
    refine sX9_part_8 ?_
    exact sX9_part_15 k
theorem c_write {q v : Nat} (hE : CE h d) (hA : CN h q 18) (hq : q + 2 ≤ d ∨ d + 6 ≤ q) (hN : NJ J q 18 v) (hT : CT g h J) (hg : g.2.2.2 < d) (hv : d162 v) (k : ∀ J' n, (∀ r, r < d ∨ d + 6 ≤ r → J' r = J r) → J' d 3 = nI n → dg v n → n ≤ 162 → (∀ i, i < n → J' (d + 5) i = nI (v / 10 ^ i % 10)) → Q none (xJ h J')) : ac g l mX3_write [.ref d, .ref q] (xJ h J) Q := by
  refine ac_of (by decide) (Nat.le_of_ble_eq_true rfl) ?_
  obtain ⟨t3, ⟨p0, p1, p2⟩, hW, -, t5⟩ := hE
  have tw := hW.1
  -- noughts ahead
  have trim : ∀ (n : Nat) (J1 : Nat → Nat → Int32) (lv0 : List (Nat × Value)), 1 ≤ n → n ≤ 162 → v < 10 ^ n → (∀ r, r < d ∨ d + 6 ≤ r → J1 r = J r) → J1 d 3 = nI n → (∀ i, i < n → J1 (d + 5) i = nI (v / 10 ^ i % 10)) → (∀ z ∈ ([(0, .ref d)] : List (Nat × Value)), z ∈ lv0) → aw g l mX3_write 85 lv0 [] (xJ h J1) Q := by
    intro n
    induction n with
    | zero => intro J1 lv0 h1; omega
    | succ n ih =>
      intro J1 lv0 h1 h2 hlt o e3 rw1 hlv
      refine aw_lv hlv ?_
      refine sX3_write_85 rfl ?_
      refine jX3_write_86 (by assumption) ?_
      rw [e3]
      refine nX3_write_89 ?_
      refine nX3_write_90 (by omega) (by decide) (fun z => ?_) (fun z => ?_)
      · obtain rfl : n = 0 := by omega
        exact sX3_write_120 (k J1 1 o e3 ⟨Nat.le_refl _, hlt, Or.inl rfl⟩ (by decide) rw1)
      · have e10 : 10 ^ (n + 1) = 10 ^ n * 10 := Nat.pow_succ ..
        have hd10 : v / 10 ^ n < 10 := Nat.div_lt_of_lt_mul (by rw [← e10]; exact hlt)
        refine sX3_write_93 rfl ?_
        refine jX3_write_94 (by assumption) (by assumption) ?_
        refine sX3_write_97 rfl ?_
        refine jX3_write_98 (by assumption) ?_
        rw [e3]
        refine nX3_write_101 ?_
        refine nX3_write_102 (by omega) ?_
        rw [Nat.add_sub_cancel]
        refine jX3_write_103 (by assumption) (by omega) (by omega) ?_
        rw [rw1 n (by omega), Nat.mod_eq_of_lt hd10]
        refine nX3_write_104 (by omega) (fun y => ?_) (fun y => ?_)
        · refine sX3_write_120 (k J1 (n + 1) o e3 ⟨h1, hlt, Or.inr ?_⟩ h2 rw1)
          rw [Nat.add_sub_cancel]
          rcases Nat.lt_or_ge v (10 ^ n) with w | w
          · exact absurd (Nat.div_eq_of_lt w) y
          · exact w
        · refine sX3_write_107 rfl ?_
          refine sX3_write_108 rfl ?_
          refine jX3_write_109 (by assumption) ?_
          rw [e3]
          refine nX3_write_112 ?_
          refine nX3_write_113 (by omega) ?_
          rw [Nat.add_sub_cancel]
          refine jX3_write_114 (by assumption) ?_
          refine sX3_write_117 ?_
          refine ih _ _ (by omega) (by omega) (Nat.lt_of_div_eq_zero (Nat.pow_pos (by decide)) y) (fun r hr => by rw [xup2_r (by omega)]; exact o r hr) xup2_s (fun i hi => by rw [xup2_r (by omega)]; exact rw1 i (by omega)) (fun z hz => by simp only [List.mem_cons, List.not_mem_nil, or_false] at hz; rcases hz with rfl <;> exact xlk_mem rfl)
  refine sX3_write_0 rfl ?_
  refine jX3_write_1 (by assumption) (by assumption) ?_
  refine sX3_write_4 rfl ?_
  refine jX3_write_5 (Nat.le_of_ble_eq_true rfl) (by assumption) ?_
  refine c_copy5 hW hA (by decide) (by decide) (by omega) hN (Nat.lt_of_lt_of_le (NJ_lt hN) (yB_le (by decide))) (fun J1 o1 n1 => ?_)
  refine sX3_write_8 rfl ?_
  refine nX3_write_9 ?_
  refine jX3_write_10 (by assumption) ?_
  refine nX3_write_13 ?_
  refine sX3_write_14 ?_
  generalize hJ2 : xup2 J1 d 3 (nI 0) = J2
  have o2 : ∀ r, r ≠ d → J2 r = J1 r := fun r hr => by rw [← hJ2, xup2_r hr]
  suffices Hl : ∀ f kk (J3 : Nat → Nat → Int32) (lv0 : List (Nat × Value)), kk + f = 18 → (∀ r, r < d ∨ d + 6 ≤ r → J3 r = J r) → NJ J3 (d + 1) 128 (v / 10 ^ (9 * kk)) → J3 d 3 = nI (9 * kk) → (∀ i, i < 9 * kk → J3 (d + 5) i = nI (v / 10 ^ i % 10)) → (∀ z ∈ ([(0, .ref d), (2, .int (nI kk))] : List (Nat × Value)), z ∈ lv0) → aw g l mX3_write 15 lv0 [] (xJ h J3) Q from Hl 18 0 J2 _ rfl (fun r hr => by rw [o2 r (by omega), o1 r (by omega) (by omega)]) (by rw [show v / 10 ^ (9 * 0) = v from Nat.div_one v]; exact NJ_c (o2 _ (by omega)) (o2 _ (by omega)) n1) (by rw [← hJ2, xup2_s]) (fun i hi => by omega) (fun z hz => by simp only [List.mem_cons, List.not_mem_nil, or_false] at hz; rcases hz with rfl | rfl <;> exact xlk_mem rfl)
  intro f
  induction f with
  | zero =>
    intro kk J3 lv0 hk o n3 e3 rw3 hlv
    refine aw_lv hlv ?_
    obtain rfl : kk = 18 := by omega
    refine sX3_write_15 rfl ?_
    refine nX3_write_16 ?_
    refine nX3_write_18 (by decide) (by decide) (fun _ => ?_) (fun z => absurd z (by decide))
    exact trim 162 J3 _ (by decide) (by decide) hv o e3 rw3 (fun z hz => by simp only [List.mem_cons, List.not_mem_nil, or_false] at hz; rcases hz with rfl <;> exact xlk_mem rfl)
  | succ f ih =>
    intro kk J3 lv0 hk o n3 e3 rw3 hlv
    refine aw_lv hlv ?_
    refine sX3_write_15 rfl ?_
    refine nX3_write_16 ?_
    refine nX3_write_18 (by omega) (by decide) (fun z => absurd z (by omega)) (fun _ => ?_)
    refine sX3_write_21 rfl ?_
    refine jX3_write_22 (by assumption) (by assumption) ?_
    refine sX3_write_25 ?_
    refine nX3_write_28 ?_
    refine jX3_write_30F hT.1 (by decide) (by decide) ?_
    rw [o _ (Or.inl hg), hT.2 9 (by decide)]
    refine jX3_write_31 (Nat.le_of_ble_eq_true rfl) (by assumption) ?_
    refine c_divideSmall5 hW (by decide) (by decide) (by decide) n3 (fun J4 o4 n4 => ?_)
    generalize hw : v / 10 ^ (9 * kk) = w at n3 n4
    have hr9 : w % 10 ^ 9 < 10 ^ 9 := Nat.mod_lt _ (by decide)
    have hr31 : w % 10 ^ 9 < 2 ^ 31 := Nat.lt_trans hr9 (by decide)
    have hq9 : v / 10 ^ (9 * (kk + 1)) = w / 10 ^ 9 := by
      rw [← hw, Nat.div_div_eq_div_mul, ← Nat.pow_add]
      rfl
    rw [← hq9] at n4
    refine sX3_write_34 ?_
    refine nX3_write_35 ?_
    refine sX3_write_36 ?_
    suffices In : ∀ f2 j r t (J5 : Nat → Nat → Int32) (lv1 : List (Nat × Value)), j + f2 = 9 → v / 10 ^ (9 * kk + j) = t * 10 ^ f2 + r → r < 2 ^ 31 → (∀ r, r < d ∨ d + 6 ≤ r → J5 r = J r) → NJ J5 (d + 1) 128 (v / 10 ^ (9 * (kk + 1))) → J5 d 3 = nI (9 * kk + j) → (∀ i, i < 9 * kk + j → J5 (d + 5) i = nI (v / 10 ^ i % 10)) → (∀ z ∈ ([(0, .ref d), (2, .int (nI kk)), (3, .int (nI r)), (4, .int (nI j))] : List (Nat × Value)), z ∈ lv1) → aw g l mX3_write 38 lv1 [] (xJ h J5) Q by
      refine In 9 0 (w % 10 ^ 9) (w / 10 ^ 9) J4 _ rfl ?_ hr31 (fun r hr => by rw [o4 r (by omega) (by omega)]; exact o r hr) n4 (by rw [o4 d (by omega) (by omega)]; exact e3) (fun i hi => by rw [o4 _ (by omega) (by omega)]; exact rw3 i hi) (fun z hz => by simp only [List.mem_cons, List.not_mem_nil, or_false] at hz; rcases hz with rfl | rfl | rfl | rfl <;> exact xlk_mem rfl)
      rw [Nat.add_zero, hw, Nat.mul_comm]
      exact (Nat.div_add_mod w (10 ^ 9)).symm
    intro f2
    induction f2 with
    | zero =>
      intro j r t J5 lv1 hj he hr o5 n5 e5 rw5 hlv1
      refine aw_lv hlv1 ?_
      obtain rfl : j = 9 := by omega
      refine sX3_write_38 rfl ?_
      refine nX3_write_40 ?_
      refine nX3_write_42 (by decide) (by decide) (fun _ => ?_) (fun z => absurd z (by decide))
      refine nX3_write_79 rfl ?_
      refine sX3_write_82 ?_
      exact ih (kk + 1) J5 _ (by omega) o5 n5 e5 rw5 (fun z hz => by simp only [List.mem_cons, List.not_mem_nil, or_false] at hz; rcases hz with rfl | rfl <;> exact xlk_mem rfl)
    | succ f2 ih2 =>
      intro j r t J5 lv1 hj he hr o5 n5 e5 rw5 hlv1
      refine aw_lv hlv1 ?_
      rw [Nat.pow_succ, ← Nat.mul_assoc] at he
      generalize hP : t * 10 ^ f2 = P at he
      refine sX3_write_38 rfl ?_
      refine nX3_write_40 ?_
      refine nX3_write_42 (by omega) (by decide) (fun z => absurd z (by omega)) (fun _ => ?_)
      refine sX3_write_45 rfl ?_
      refine jX3_write_46 (by assumption) (by assumption) ?_
      refine sX3_write_49 rfl ?_
      refine jX3_write_50 (by assumption) ?_
      rw [e5]
      refine sX3_write_53 rfl ?_
      refine nX3_write_54 ?_
      refine nX3_write_56 (by omega) (by omega) (by omega) ?_
      refine jX3_write_57 (by assumption) (by omega) (by omega) ?_
      refine sX3_write_58 rfl ?_
      refine nX3_write_59 ?_
      refine nX3_write_61 (by omega) (by omega) (by omega) ?_
      refine sX3_write_62 ?_
      refine sX3_write_63 rfl ?_
      refine sX3_write_64 rfl ?_
      refine jX3_write_65 (by assumption) ?_
      rw [xup2_r (by omega), e5]
      refine nX3_write_68 ?_
      refine nX3_write_69 ?_
      refine jX3_write_70 (by assumption) ?_
      refine nX3_write_73 rfl ?_
      refine sX3_write_76 ?_
      refine ih2 (j + 1) (r / 10) t _ _ (by omega) ?_ (by omega) (fun q hq => by rw [xup2_r (by omega), xup2_r (by omega)]; exact o5 q hq) (NJ_c (by rw [xup2_r (by omega), xup2_r (by omega)]) (by rw [xup2_r (by omega), xup2_r (by omega)]) n5) (by rw [xup2_s]; rfl) (fun i hi => ?_) (fun z hz => by simp only [List.mem_cons, List.not_mem_nil, or_false] at hz; rcases hz with rfl | rfl | rfl | rfl <;> exact xlk_mem rfl)
      · rw [show 9 * kk + (j + 1) = 9 * kk + j + 1 from rfl, dvs, he, hP]; omega
      · rw [xup2_r (by omega)]
        rcases (show i = 9 * kk + j ∨ i < 9 * kk + j by omega) with z | z
        · rw [z, xup2_s, he]; congr 1; omega
        · rw [xup2_n (by omega)]; exact rw5 i z
theorem c_digits10 {n : Int32} (hM : CM h x) (hE : CE h (x + 20)) (hCV : CV h (x + 26)) (hV : VJ J (x + 26) V) (wV : vWf V) (hT : CT g h J) (hg : g.2.2.2 < x) (k0 : n ≠ 0 → n ≠ 1 → Q (some (.int (-1))) (xJ h J)) (k1 : ∀ p, n = nI p → p < 2 → ∀ J' cn, (∀ r, r < x + 20 ∨ x + 26 ≤ r → J' r = J r) → dg (pv2 p V) cn → Q (some (.int (nI cn))) (xJ h J')) : ac g l mX10_digits [.ref x, .int n] (xJ h J) Q := by
  refine ac_of (by decide) (Nat.le_of_ble_eq_true rfl) ?_
  obtain ⟨t1, ⟨-, -, -, -, p6, p7⟩, -⟩ := hM
  have t9 := hCV.1
  have t3 := hE.1
  have go : ∀ (p : Nat) (lv0 : List (Nat × Value)), n = nI p → p < 2 → (∀ z ∈ ([(0, .ref x), (1, .int (nI p))] : List (Nat × Value)), z ∈ lv0) → aw g l mX10_digits 11 lv0 [] (xJ h J) Q := by
    intro p lv0 hn hp hlv
    refine aw_lv hlv ?_
    have hNN : NJ J (if p = 0 then x + 26 + 1 else x + 26 + 3) 18 (pv2 p V) := by
      unfold pv2; split
      · exact hV.2.1
      · exact hV.2.2.1
    have hCN : CN h (if p = 0 then x + 26 + 1 else x + 26 + 3) 18 := by
      split
      · exact hCV.2.2.1
      · exact hCV.2.2.2.1
    refine sX10_digits_11 rfl ?_
    refine jX10_digits_12 (by assumption) (by assumption) ?_
    refine sX10_digits_15 rfl ?_
    refine jX10_digits_16 (by assumption) (by assumption) ?_
    refine sX10_digits_19 rfl ?_
    refine jX10_digits_20 (Nat.le_of_ble_eq_true rfl) (by assumption) ?_
    refine c_part hCV hp ?_
    generalize hq : (if p = 0 then x + 26 + 1 else x + 26 + 3) = q at hNN hCN
    have hq2 : x + 26 ≤ q := by rw [← hq]; split <;> omega
    show aw g l mX10_digits 23 _ (.ref q :: .ref (x + 20) :: []) _ Q
    refine jX10_digits_23 (Nat.le_of_ble_eq_true rfl) (by assumption) ?_
    refine c_write hE hCN (by omega) hNN hT (by omega) (d162_of (pv2_lt wV)) (fun J1 cn o e3 hd _ _ => ?_)
    refine sX10_digits_26 rfl ?_
    refine jX10_digits_27 (by assumption) (by assumption) ?_
    refine jX10_digits_30 (by assumption) ?_
    rw [e3]
    exact sX10_digits_33 (k1 p hn hp J1 cn o hd)
  refine sX10_digits_0 rfl ?_
  refine sX10_digits_1 (fun z => ?_) (fun z => ?_)
  · subst z
    exact go 0 _ rfl (by decide) (fun z hz => by simp only [List.mem_cons, List.not_mem_nil, or_false] at hz; rcases hz with rfl | rfl <;> exact xlk_mem rfl)
  · refine sX10_digits_4 rfl ?_
    refine sX10_digits_5 ?_
    refine sX10_digits_6 (fun y => ?_) (fun y => ?_)
    · subst y
      exact go 1 _ rfl (by decide) (fun z hz => by simp only [List.mem_cons, List.not_mem_nil, or_false] at hz; rcases hz with rfl | rfl <;> exact xlk_mem rfl)
    · refine sX10_digits_9 ?_
      exact sX10_digits_10 (k0 z y)
theorem c_digit10 {n i : Int32} (hM : CM h x) (hE : CE h (x + 20)) (hCV : CV h (x + 26)) (hV : VJ J (x + 26) V) (wV : vWf V) (hT : CT g h J) (hg : g.2.2.2 < x) (k0 : n ≠ 0 → n ≠ 1 → Q (some (.int (-1))) (xJ h J)) (k1 : ∀ p cn, n = nI p → p < 2 → dg (pv2 p V) cn → cn ≤ 162 → (i < 0 ∨ ∃ q, i = nI q ∧ q < 2 ^ 31 ∧ cn ≤ q) → ∀ J', (∀ r, r < x + 20 ∨ x + 26 ≤ r → J' r = J r) → Q (some (.int (-1))) (xJ h J')) (k2 : ∀ p cn q, n = nI p → p < 2 → dg (pv2 p V) cn → i = nI q → q < cn → cn ≤ 162 → ∀ J', (∀ r, r < x + 20 ∨ x + 26 ≤ r → J' r = J r) → Q (some (.int (nI (pv2 p V / 10 ^ q % 10)))) (xJ h J')) : ac g l mX10_digit [.ref x, .int n, .int i] (xJ h J) Q := by
  refine ac_of (by decide) (Nat.le_of_ble_eq_true rfl) ?_
  obtain ⟨t1, ⟨-, -, -, -, p6, p7⟩, -⟩ := hM
  have t9 := hCV.1
  obtain ⟨t3, ⟨-, -, e2⟩, -, -, t5⟩ := id hE
  have go : ∀ (p : Nat) (lv0 : List (Nat × Value)), n = nI p → p < 2 → (∀ z ∈ ([(0, .ref x), (1, .int (nI p)), (2, .int i)] : List (Nat × Value)), z ∈ lv0) → aw g l mX10_digit 11 lv0 [] (xJ h J) Q := by
    intro p lv0 hn hp hlv
    refine aw_lv hlv ?_
    have hNN : NJ J (if p = 0 then x + 26 + 1 else x + 26 + 3) 18 (pv2 p V) := by
      unfold pv2; split
      · exact hV.2.1
      · exact hV.2.2.1
    have hCN : CN h (if p = 0 then x + 26 + 1 else x + 26 + 3) 18 := by
      split
      · exact hCV.2.2.1
      · exact hCV.2.2.2.1
    refine sX10_digit_11 rfl ?_
    refine jX10_digit_12 (by assumption) (by assumption) ?_
    refine sX10_digit_15 rfl ?_
    refine jX10_digit_16 (by assumption) (by assumption) ?_
    refine sX10_digit_19 rfl ?_
    refine jX10_digit_20 (Nat.le_of_ble_eq_true rfl) (by assumption) ?_
    refine c_part hCV hp ?_
    generalize hq : (if p = 0 then x + 26 + 1 else x + 26 + 3) = q at hNN hCN
    have hq2 : x + 26 ≤ q := by rw [← hq]; split <;> omega
    show aw g l mX10_digit 23 _ (.ref q :: .ref (x + 20) :: []) _ Q
    refine jX10_digit_23 (Nat.le_of_ble_eq_true rfl) (by assumption) ?_
    refine c_write hE hCN (by omega) hNN hT (by omega) (d162_of (pv2_lt wV)) (fun J1 cn o e3 hd h162 hrow => ?_)
    have no : ∀ lv1 : List (Nat × Value), (i < 0 ∨ ∃ q, i = nI q ∧ q < 2 ^ 31 ∧ cn ≤ q) → aw g l mX10_digit 53 lv1 [] (xJ h J1) Q := fun lv1 z => by
      refine sX10_digit_53 ?_
      exact sX10_digit_54 (k1 p cn hn hp hd h162 z J1 o)
    refine sX10_digit_26 rfl ?_
    rcases i32c i with z | ⟨q', hi, hq'⟩
    · exact sX10_digit_27 (fun _ => no _ (Or.inl z)) (fun y => absurd z y)
    · subst hi
      refine nX10_digit_27 hq' ?_
      refine sX10_digit_30 rfl ?_
      refine sX10_digit_31 rfl ?_
      refine jX10_digit_32 (by assumption) (by assumption) ?_
      refine jX10_digit_35 (by assumption) ?_
      rw [e3]
      refine nX10_digit_38 hq' (by omega) (fun y => no _ (Or.inr ⟨q', rfl, hq', y⟩)) (fun y => ?_)
      refine sX10_digit_41 rfl ?_
      refine jX10_digit_42 (by assumption) (by assumption) ?_
      refine jX10_digit_45 (by assumption) (by assumption) ?_
      refine sX10_digit_48 rfl ?_
      refine jX10_digit_49 (by assumption) (by omega) (by omega) ?_
      rw [hrow q' y]
      refine sX10_digit_50 ?_
      exact sX10_digit_54 (k2 p cn q' hn hp hd rfl y h162 J1 o)
  refine sX10_digit_0 rfl ?_
  refine sX10_digit_1 (fun z => ?_) (fun z => ?_)
  · subst z
    exact go 0 _ rfl (by decide) (fun z hz => by simp only [List.mem_cons, List.not_mem_nil, or_false] at hz; rcases hz with rfl | rfl | rfl <;> exact xlk_mem rfl)
  · refine sX10_digit_4 rfl ?_
    refine sX10_digit_5 ?_
    refine sX10_digit_6 (fun y => ?_) (fun y => ?_)
    · subst y
      exact go 1 _ rfl (by decide) (fun z hz => by simp only [List.mem_cons, List.not_mem_nil, or_false] at hz; rcases hz with rfl | rfl | rfl <;> exact xlk_mem rfl)
    · refine sX10_digit_9 ?_
      exact sX10_digit_10 (k0 z y)
end CDec
