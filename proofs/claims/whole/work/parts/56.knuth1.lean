def lZ (z : Int) : Int64 := Int64.ofInt z
theorem lZ_N (n : Nat) : lZ (n : Int) = lN n := by
  unfold lZ lN
  apply Int64.toBitVec_inj.mp
  show BitVec.ofInt 64 (n : Int) = BitVec.ofNat 64 n
  rw [BitVec.ofInt_natCast]
theorem lZ_add (a b : Int) : lZ a + lZ b = lZ (a + b) := (Int64.ofInt_add ..).symm
theorem lZ_sub (a b : Int) : lZ a - lZ b = lZ (a - b) := (Int64.ofInt_sub ..).symm
theorem lZ_mul (a b : Int) : lZ a * lZ b = lZ (a * b) := (Int64.ofInt_mul ..).symm
theorem lZ_toInt {z : Int} (h1 : -9223372036854775808 ≤ z) (h2 : z < 9223372036854775808) : (lZ z).toInt = z := Int64.toInt_ofInt_of_le h1 h2
theorem lZ_shr {z : Int} (h1 : -4611686018427387904 ≤ z) (h2 : z < 4611686018427387904) : lZ z >>> ((nI 30).toInt64 &&& 63) = lZ (z / 1073741824) := by
  apply Int64.toInt_inj.mp
  have hD : ((((nI 30).toInt64 &&& 63)).toBitVec.smod 64).toNat = 30 := by decide +kernel
  have e : (lZ z >>> ((nI 30).toInt64 &&& 63)).toInt = (lZ z).toInt >>> 30 := by
    rw [← hD]
    exact BitVec.toInt_sshiftRight ..
  rw [e, Int.shiftRight_eq_div_pow, lZ_toInt (by omega) (by omega), lZ_toInt (by omega) (by omega)]
  rfl
theorem lZ_mask (z : Int) : lZ z &&& 1073741823 = lN (z % 1073741824).toNat := by
  apply wb_inj
  rw [Int64.toBitVec_and]
  apply BitVec.eq_of_toNat_eq
  rw [BitVec.toNat_and]
  have e1 : (lZ z).toBitVec.toNat = (z % 18446744073709551616).toNat := BitVec.toNat_ofInt ..
  have e2 : (1073741823 : Int64).toBitVec.toNat = 2 ^ 30 - 1 := by decide
  rw [e1, e2, Nat.and_two_pow_sub_one_eq_mod, wb_tn (by omega)]
  omega
theorem lZ_neg {z : Int} (h1 : -4611686018427387904 ≤ z) (h2 : z < 4611686018427387904) : lZ z < 0 ↔ z < 0 := by
  rw [Int64.lt_iff_toInt_lt, lZ_toInt (by omega) (by omega)]
  exact Iff.rfl
def dz (z : Int) : Nat → Int
  | 0 => z
  | i + 1 => dz z i / 1073741824
theorem dz_nat (D : Nat) : ∀ i, dz (D : Int) i = (yh D i : Int)
  | 0 => by show (D : Int) = _; rw [yh_0]
  | i + 1 => by
    show dz (D : Int) i / 1073741824 = _
    rw [dz_nat D i, yh_s]
    omega
theorem dz_neg {D m : Nat} : ∀ i, i ≤ m → dz ((D : Int) - (yB m : Int)) i = (yh D i : Int) - (yB (m - i) : Int)
  | 0, _ => by show (D : Int) - _ = _; rw [yh_0, Nat.sub_zero]
  | i + 1, hi => by
    show dz ((D : Int) - (yB m : Int)) i / 1073741824 = _
    rw [dz_neg i (by omega), yh_s, show m - i = m - (i + 1) + 1 by omega, yB_s]
    have : ((yB (m - (i + 1)) * 1073741824 : Nat) : Int) = (yB (m - (i + 1)) : Int) * 1073741824 := by rw [Int.natCast_mul]; rfl
    rw [this]
    omega
/-- estimates of a quotient's digit -/
theorem est_lo {q x X y Y P : Nat} (h1 : q * Y ≤ X) (h2 : X < (x + 1) * P) (h3 : y * P ≤ Y) : q * y ≤ x := by
  rcases Nat.lt_or_ge x (q * y) with h | h
  · have a1 : (x + 1) * P ≤ q * y * P := Nat.mul_le_mul_right _ h
    have a2 : q * (y * P) ≤ q * Y := Nat.mul_le_mul_left _ h3
    rw [← Nat.mul_assoc] at a2
    omega
  · exact h
theorem est_hi {q g x X y Y P k : Nat} (hP : 0 < P) (h1 : X < (q + 1) * Y) (h2 : Y < (y + 1) * P) (h3 : g * y ≤ x) (h4 : x * P ≤ X) (h5 : g ≤ k * (y + 1)) (hk : 0 < k) : g ≤ q + k := by
  rcases Nat.lt_or_ge (q + k) g with h | h
  · exfalso
    have b1 : (q + 1) * Y ≤ (g - k) * Y := Nat.mul_le_mul_right _ (by omega)
    have b2 : (g - k) * Y ≤ (g - k) * ((y + 1) * P) := Nat.mul_le_mul_left _ (by omega)
    have b3 : g * y * P ≤ x * P := Nat.mul_le_mul_right _ h3
    have b4 : g * y * P < (g - k) * (y + 1) * P := by
      rw [Nat.mul_assoc (g - k)]
      omega
    have b5 := Nat.lt_of_mul_lt_mul_right b4
    obtain ⟨d, rfl⟩ : ∃ d, g = d + k := ⟨g - k, by omega⟩
    rw [Nat.add_sub_cancel, Nat.add_mul, Nat.mul_add, Nat.mul_one] at b5
    rw [Nat.mul_add, Nat.mul_one] at h5
    omega
  · exact h
theorem zT_lem (c : Int) (u1 u2 u3 u4 : Nat) : ((1073741824 * u3 + u4 : Nat) : Int) - ((1073741824 * u1 + u2 : Nat) : Int) + c = c + ((u4 : Int) - (u2 : Int)) + 1073741824 * ((u3 : Int) - (u1 : Int)) := by omega
theorem zT_b {c : Int} {u2 u4 : Nat} (h1 : c ≤ 0) (h2 : -1073741826 ≤ c) (h3 : u2 ≤ 1073741824 * 1073741823) (h4 : u4 < 1073741824) : (-4611686018427387904 ≤ c + ((u4 : Int) - (u2 : Int)) ∧ c + ((u4 : Int) - (u2 : Int)) < 4611686018427387904) ∧ (c + ((u4 : Int) - (u2 : Int))) / 1073741824 ≤ 0 ∧ -1073741826 ≤ (c + ((u4 : Int) - (u2 : Int))) / 1073741824 := by omega
/-- a Bench at e and what lies behind it -/
def CB (h : xH) (e : Nat) : Prop := (xT h e).1 = 0 ∧ (xP h e 1 = some (e + 1) ∧ xP h e 2 = some (e + 3) ∧ xP h e 4 = some (e + 5) ∧ xP h e 5 = some (e + 7) ∧ xP h e 6 = some (e + 9) ∧ xP h e 7 = some (e + 11) ∧ xP h e 8 = some (e + 12)) ∧ (CN h (e + 1) 128 ∧ CN h (e + 3) 128 ∧ CN h (e + 5) 128 ∧ CN h (e + 7) 128 ∧ CN h (e + 9) 128) ∧ xT h (e + 11) = (100, 129) ∧ xT h (e + 12) = (100, 129)
section Knuth1
variable {g : xG} {l : Launch} {h : xH} {J : Nat → Nat → Int32} {Q : Option Value → xH → Prop}
theorem c_shiftUp {e a c q v s sh : Nat} (hB : CB h e) (hA : CN h a c) (hc : c < 2 ^ 29) (hq : xT h q = (100, 129)) (hqa : q ≠ a + 1) (hsh : sh ≤ 29) (hN : NR J a c v s) (hs : s ≤ 128) (k : ∀ J', (∀ r, r ≠ q → J' r = J r) → (∀ i, i ≤ s → J' q i = nI (yg (v * 2 ^ sh) i)) → Q none (xJ h J')) : ac g l mX0_shiftUp [.ref e, .ref a, .int (nI sh), .ref q] (xJ h J) Q := by
  refine ac_of (by decide) (Nat.le_of_ble_eq_true rfl) ?_
  obtain ⟨a1, a2, a3⟩ := hA
  obtain ⟨n1, n2, n3, n4⟩ := hN
  have hqa2 : q ≠ a := fun e2 => by rw [← e2, hq] at a1; cases a1
  obtain ⟨U, hU⟩ : ∃ U, U = v * 2 ^ sh := ⟨_, rfl⟩
  rw [← hU] at k
  have hp : 0 < 2 ^ sh := Nat.pow_pos (by decide)
  have hp2 : 2 ^ sh ≤ 2 ^ 29 := Nat.pow_le_pow_right (by decide) hsh
  obtain ⟨F, hF⟩ : ∃ F, F = 2 ^ sh := ⟨_, rfl⟩
  rw [← hF] at hU hp hp2
  refine sX0_shiftUp_0 ?_
  refine sX0_shiftUp_1 ?_
  refine nX0_shiftUp_3 ?_
  refine sX0_shiftUp_4 ?_
  suffices H : ∀ n i cr J1 lv0, i + n = s → cr < 1073741824 → yh U i = yh v i * F + cr → (∀ r, r ≠ q → J1 r = J r) → (∀ j, j < i → J1 q j = nI (yg U j)) → (∀ z ∈ ([(1, .ref a), (2, .int (nI sh)), (3, .ref q), (4, .long (lN cr)), (6, .int (nI i))] : List (Nat × Value)), z ∈ lv0) → aw g l mX0_shiftUp 6 lv0 [] (xJ h J1) Q from H s 0 0 J _ (by omega) (by omega) (by rw [yh_0, yh_0, Nat.add_zero]; exact hU) (fun _ _ => rfl) (fun j hj => absurd hj (by omega)) (fun z hz => by
      simp only [List.mem_cons, List.not_mem_nil, or_false] at hz
      rcases hz with rfl | rfl | rfl | rfl | rfl <;> exact xlk_mem rfl)
  intro n
  induction n with
  | zero =>
    intro i cr J1 lv0 hi hcr hz ho hP hlv
    refine aw_lv hlv ?_
    obtain rfl : i = s := by omega
    rw [yh_small n2, Nat.zero_mul, Nat.zero_add] at hz
    have sz : J1 a 1 = nI i := by rw [ho a (Ne.symm hqa2)]; exact n3
    refine sX0_shiftUp_6 rfl ?_
    refine sX0_shiftUp_8 rfl ?_
    refine jX0_shiftUp_9 (by assumption) ?_
    rw [sz]
    refine nX0_shiftUp_12 (by omega) (by omega) (fun _ => ?_) (fun hc => absurd hc (by omega))
    refine sX0_shiftUp_54 rfl ?_
    refine sX0_shiftUp_55 rfl ?_
    refine jX0_shiftUp_56 (by assumption) ?_
    rw [sz]
    refine sX0_shiftUp_59 rfl ?_
    refine sX0_shiftUp_61 ?_
    rw [lN_i]
    refine jX0_shiftUp_62 (by assumption) (by omega) (by omega) ?_
    refine sX0_shiftUp_63 ?_
    refine k _ (fun r hr => by rw [xup2_r hr]; exact ho r hr) (fun j hj => ?_)
    by_cases e2 : j = i
    · subst e2; rw [xup2_s]; congr 1; unfold yg; rw [hz, Nat.mod_eq_of_lt hcr]
    · rw [xup2_n e2]; exact hP j (by omega)
  | succ n ih =>
    intro i cr J1 lv0 hi hcr hz ho hP hlv
    refine aw_lv hlv ?_
    have sz : J1 a 1 = nI s := by rw [ho a (Ne.symm hqa2)]; exact n3
    have dg : J1 (a + 1) i = nI (yg v i) := by rw [ho (a + 1) (Ne.symm hqa)]; exact n4 i (by omega)
    have g1 := yg_lt v i
    have g3 := yg_lt U i
    have e1 := yh_eq v i
    have e3 := yh_eq U i
    have hm : yg v i * F ≤ 1073741823 * 2 ^ 29 := Nat.mul_le_mul (by omega) hp2
    have e4 : yh v i * F = 1073741824 * (yh v (i + 1) * F) + yg v i * F := by rw [e1, Nat.add_mul, Nat.mul_assoc]
    rw [e4] at hz
    refine sX0_shiftUp_6 rfl ?_
    refine sX0_shiftUp_8 rfl ?_
    refine jX0_shiftUp_9 (by assumption) ?_
    rw [sz]
    refine nX0_shiftUp_12 (by omega) (by omega) (fun hc => absurd hc (by omega)) (fun _ => ?_)
    refine sX0_shiftUp_15 rfl ?_
    refine sX0_shiftUp_17 rfl ?_
    refine jX0_shiftUp_18 (by assumption) (by assumption) ?_
    refine sX0_shiftUp_21 rfl ?_
    refine jX0_shiftUp_23 (by assumption) (by omega) (by omega) ?_
    rw [dg]
    refine sX0_shiftUp_24 ?_
    refine sX0_shiftUp_25 rfl ?_
    refine sX0_shiftUp_26 ?_
    rw [nI_l (by omega), wb_shl _ (by omega), ← hF]
    refine sX0_shiftUp_27 ?_
    rw [lN_add]
    obtain ⟨w, hw⟩ : ∃ w, w = cr + yg v i * F := ⟨_, rfl⟩
    rw [← hw]
    have hwB : w < 2 ^ 62 := by omega
    refine sX0_shiftUp_28 ?_
    refine sX0_shiftUp_30 rfl ?_
    refine sX0_shiftUp_31 rfl ?_
    refine sX0_shiftUp_33 rfl ?_
    refine sX0_shiftUp_35 ?_
    refine sX0_shiftUp_38 ?_
    rw [lN_mask (by omega)]
    refine sX0_shiftUp_39 ?_
    rw [lN_i]
    refine jX0_shiftUp_40 (by assumption) (by omega) (by omega) ?_
    refine sX0_shiftUp_41 rfl ?_
    refine nX0_shiftUp_43 ?_
    refine sX0_shiftUp_45 ?_
    rw [lN_shr30 hwB]
    refine sX0_shiftUp_46 ?_
    refine nX0_shiftUp_48 rfl ?_
    refine sX0_shiftUp_51 ?_
    refine ih (i + 1) (w / 1073741824) _ _ (by omega) (by omega) (by omega) (fun r hr => by rw [xup2_r hr]; exact ho r hr) (fun j hj => ?_) (fun z hz => by
      simp only [List.mem_cons, List.not_mem_nil, or_false] at hz
      rcases hz with rfl | rfl | rfl | rfl | rfl <;> exact xlk_mem rfl)
    by_cases e2 : j = i
    · subst e2; rw [xup2_s]; congr 1; omega
    · rw [xup2_n e2]; exact hP j (by omega)
theorem c_subtractTimes {e j n W V q : Nat} (hB : CB h e) (hjn : j + n < 129) (hq : q ≤ 1073741824) (hW : ∀ i, i ≤ n → J (e + 11) (j + i) = nI (yg W i)) (hV : ∀ i, i < n → J (e + 12) i = nI (yg V i)) (hWB : W < yB (n + 1)) (hVB : V < yB n) (k : ∀ J', (∀ r, r ≠ e + 11 → J' r = J r) → (∀ i, i < j ∨ j + n < i → J' (e + 11) i = J (e + 11) i) → (∀ i, i ≤ n → J' (e + 11) (j + i) = nI (dz ((W : Int) - (q * V : Nat)) i % 1073741824).toNat) → Q (some (.long (lZ (dz ((W : Int) - (q * V : Nat)) (n + 1))))) (xJ h J')) : ac g l mX0_subtractTimes [.ref e, .long (lN q), .int (nI j), .int (nI n)] (xJ h J) Q := by
  refine ac_of (by decide) (Nat.le_of_ble_eq_true rfl) ?_
  obtain ⟨t1, ⟨p1, p2, p4, p5, p6, p7, p8⟩, -, t11, t12⟩ := hB
  obtain ⟨Z, hZ⟩ : ∃ Z : Int, Z = (W : Int) - (q * V : Nat) := ⟨_, rfl⟩
  rw [← hZ] at k
  refine sX0_subtractTimes_0 ?_
  refine sX0_subtractTimes_1 ?_
  refine nX0_subtractTimes_3 ?_
  refine sX0_subtractTimes_4 ?_
  suffices H : ∀ m i (c : Int) J1 lv0, i + m = n → c ≤ 0 → -1073741826 ≤ c → dz Z i = (yh W i : Int) - (q * yh V i : Nat) + c → (∀ r, r ≠ e + 11 → J1 r = J r) → (∀ p, p < j ∨ j + i ≤ p → J1 (e + 11) p = J (e + 11) p) → (∀ p, p < i → J1 (e + 11) (j + p) = nI (dz Z p % 1073741824).toNat) → (∀ z ∈ ([(0, .ref e), (1, .long (lN q)), (3, .int (nI j)), (4, .int (nI n)), (5, .long (lZ c)), (7, .int (nI i))] : List (Nat × Value)), z ∈ lv0) → aw g l mX0_subtractTimes 6 lv0 [] (xJ h J1) Q from H n 0 0 J _ (by omega) (by omega) (by omega) (by rw [yh_0, yh_0, Int.add_zero]; exact hZ) (fun _ _ => rfl) (fun _ _ => rfl) (fun p hp => absurd hp (by omega)) (fun z hz => by
      simp only [List.mem_cons, List.not_mem_nil, or_false] at hz
      rcases hz with rfl | rfl | rfl | rfl | rfl | rfl <;> exact xlk_mem rfl)
  intro m
  induction m with
  | zero =>
    intro i c J1 lv0 hi hc1 hc2 hz ho ho2 hP hlv
    refine aw_lv hlv ?_
    obtain rfl : i = n := by omega
    rw [yh_small hVB, Nat.mul_zero] at hz
    have hWn : yh W i = yg W i := by
      have := yh_eq W i
      rw [yh_small hWB] at this
      omega
    have g1 := yg_lt W i
    have dg : J1 (e + 11) (j + i) = nI (yg W i) := by rw [ho2 (j + i) (by omega)]; exact hW i (by omega)
    refine sX0_subtractTimes_6 rfl ?_
    refine sX0_subtractTimes_8 rfl ?_
    refine nX0_subtractTimes_10 (by omega) (by omega) (fun _ => ?_) (fun hc => absurd hc (by omega))
    refine sX0_subtractTimes_68 rfl ?_
    refine sX0_subtractTimes_70 rfl ?_
    refine jX0_subtractTimes_71 (by assumption) (by assumption) ?_
    refine sX0_subtractTimes_74 rfl ?_
    refine sX0_subtractTimes_75 rfl ?_
    refine nX0_subtractTimes_77 ?_
    refine jX0_subtractTimes_78 (by assumption) (by omega) (by omega) ?_
    rw [dg]
    refine sX0_subtractTimes_79 ?_
    refine sX0_subtractTimes_80 ?_
    rw [nI_l (by omega), ← lZ_N (yg W i), lZ_add]
    have hz2 : dz Z i = c + (yg W i : Int) := by rw [hz, hWn]; omega
    rw [← hz2]
    refine sX0_subtractTimes_81 ?_
    refine sX0_subtractTimes_83 rfl ?_
    refine jX0_subtractTimes_84 (by assumption) (by assumption) ?_
    refine sX0_subtractTimes_87 rfl ?_
    refine sX0_subtractTimes_88 rfl ?_
    refine nX0_subtractTimes_90 ?_
    refine sX0_subtractTimes_91 rfl ?_
    refine sX0_subtractTimes_93 ?_
    refine sX0_subtractTimes_96 ?_
    rw [lZ_mask]
    refine sX0_subtractTimes_97 ?_
    rw [lN_i]
    refine jX0_subtractTimes_98 (by assumption) (by omega) (by omega) ?_
    refine sX0_subtractTimes_99 rfl ?_
    refine nX0_subtractTimes_101 ?_
    refine sX0_subtractTimes_103 ?_
    rw [lZ_shr (by omega) (by omega)]
    refine sX0_subtractTimes_104 (k _ (fun r hr => by rw [xup2_r hr]; exact ho r hr) (fun p hp => ?_) (fun p hp => ?_))
    · rw [xup2_n (by omega)]; exact ho2 p (by omega)
    · by_cases e2 : p = i
      · subst e2; rw [xup2_s]
      · rw [xup2_n (by omega)]; exact hP p (by omega)
  | succ m ih =>
    intro i c J1 lv0 hi hc1 hc2 hz ho ho2 hP hlv
    refine aw_lv hlv ?_
    have g1 := yg_lt W i
    have g2 := yg_lt V i
    have e1 := yh_eq W i
    have e2 := yh_eq V i
    have dg : J1 (e + 11) (j + i) = nI (yg W i) := by rw [ho2 (j + i) (by omega)]; exact hW i (by omega)
    have dv : J1 (e + 12) i = nI (yg V i) := by rw [ho (e + 12) (by omega)]; exact hV i (by omega)
    have hm : q * yg V i ≤ 1073741824 * 1073741823 := Nat.mul_le_mul hq (by omega)
    have e4 : q * yh V i = 1073741824 * (q * yh V (i + 1)) + q * yg V i := by
      rw [e2, Nat.mul_add]
      congr 1
      rw [← Nat.mul_assoc, ← Nat.mul_assoc, Nat.mul_comm q 1073741824]
    refine sX0_subtractTimes_6 rfl ?_
    refine sX0_subtractTimes_8 rfl ?_
    refine nX0_subtractTimes_10 (by omega) (by omega) (fun hc => absurd hc (by omega)) (fun _ => ?_)
    refine sX0_subtractTimes_13 rfl ?_
    refine sX0_subtractTimes_15 rfl ?_
    refine jX0_subtractTimes_16 (by assumption) (by assumption) ?_
    refine sX0_subtractTimes_19 rfl ?_
    refine sX0_subtractTimes_21 rfl ?_
    refine nX0_subtractTimes_22 ?_
    rw [Nat.add_comm i j]
    refine jX0_subtractTimes_23 (by assumption) (by omega) (by omega) ?_
    rw [dg]
    refine sX0_subtractTimes_24 ?_
    refine sX0_subtractTimes_25 rfl ?_
    rw [nI_l (by omega)]
    refine sX0_subtractTimes_26 rfl ?_
    refine jX0_subtractTimes_27 (by assumption) (by assumption) ?_
    refine sX0_subtractTimes_30 rfl ?_
    refine jX0_subtractTimes_32 (by assumption) (by omega) (by omega) ?_
    rw [dv]
    refine sX0_subtractTimes_33 ?_
    rw [nI_l (by omega)]
    refine sX0_subtractTimes_34 ?_
    refine sX0_subtractTimes_35 ?_
    refine sX0_subtractTimes_36 ?_
    rw [lN_mul, ← lZ_N (yg W i), ← lZ_N (q * yg V i), lZ_sub, lZ_add]
    obtain ⟨T, hT⟩ : ∃ T : Int, T = c + ((yg W i : Int) - ((q * yg V i : Nat) : Int)) := ⟨_, rfl⟩
    rw [← hT]
    obtain ⟨A, hA⟩ : ∃ A : Int, A = (yh W (i + 1) : Int) - ((q * yh V (i + 1) : Nat) : Int) := ⟨_, rfl⟩
    have hzT : dz Z i = T + 1073741824 * A := by
      rw [hz, hT, e4, hA, e1]
      exact zT_lem c _ _ _ _
    refine sX0_subtractTimes_37 ?_
    refine sX0_subtractTimes_39 rfl ?_
    refine jX0_subtractTimes_40 (by assumption) (by assumption) ?_
    refine sX0_subtractTimes_43 rfl ?_
    refine sX0_subtractTimes_45 rfl ?_
    refine nX0_subtractTimes_46 ?_
    rw [Nat.add_comm i j]
    refine sX0_subtractTimes_47 rfl ?_
    refine sX0_subtractTimes_49 ?_
    refine sX0_subtractTimes_52 ?_
    rw [lZ_mask]
    refine sX0_subtractTimes_53 ?_
    rw [lN_i]
    refine jX0_subtractTimes_54 (by assumption) (by omega) (by omega) ?_
    refine sX0_subtractTimes_55 rfl ?_
    refine nX0_subtractTimes_57 ?_
    refine sX0_subtractTimes_59 ?_
    have hTb : -4611686018427387904 ≤ T ∧ T < 4611686018427387904 := by
      rw [hT]; exact (zT_b hc1 hc2 hm g1).1
    rw [lZ_shr hTb.1 hTb.2]
    refine sX0_subtractTimes_60 ?_
    refine nX0_subtractTimes_62 rfl ?_
    refine sX0_subtractTimes_65 ?_
    have hmod : dz Z i % 1073741824 = T % 1073741824 := by rw [hzT]; exact Int.add_mul_emod_self_left ..
    have hT1 : T / 1073741824 ≤ 0 ∧ -1073741826 ≤ T / 1073741824 := by
      rw [hT]; exact (zT_b hc1 hc2 hm g1).2
    refine ih (i + 1) (T / 1073741824) _ _ (by omega) hT1.1 hT1.2 ?_ (fun r hr => by rw [xup2_r hr]; exact ho r hr) (fun p hp => ?_) (fun p hp => ?_) (fun z hz => by
      simp only [List.mem_cons, List.not_mem_nil, or_false] at hz
      rcases hz with rfl | rfl | rfl | rfl | rfl | rfl <;> exact xlk_mem rfl)
    · show dz Z i / 1073741824 = _
      rw [hzT, Int.add_mul_ediv_left _ _ (by decide), ← hA]
      exact Int.add_comm ..
    · rw [xup2_n (by omega)]; exact ho2 p (by omega)
    · by_cases e5 : p = i
      · subst e5; rw [xup2_s, hmod]
      · rw [xup2_n (by omega)]; exact hP p (by omega)
theorem c_addBack {e j n X V : Nat} (hB : CB h e) (hjn : j + n < 129) (hX : ∀ i, i ≤ n → J (e + 11) (j + i) = nI (yg X i)) (hV : ∀ i, i < n → J (e + 12) i = nI (yg V i)) (hVB : V < yB n) (k : ∀ J', (∀ r, r ≠ e + 11 → J' r = J r) → (∀ i, i < j ∨ j + n < i → J' (e + 11) i = J (e + 11) i) → (∀ i, i ≤ n → J' (e + 11) (j + i) = nI (yg (X + V) i)) → Q none (xJ h J')) : ac g l mX0_addBack [.ref e, .int (nI j), .int (nI n)] (xJ h J) Q := by
  refine ac_of (by decide) (Nat.le_of_ble_eq_true rfl) ?_
  obtain ⟨t1, ⟨p1, p2, p4, p5, p6, p7, p8⟩, -, t11, t12⟩ := hB
  obtain ⟨D, hD⟩ : ∃ D, D = X + V := ⟨_, rfl⟩
  rw [← hD] at k
  refine nX0_addBack_0 ?_
  refine sX0_addBack_1 ?_
  refine nX0_addBack_2 ?_
  refine sX0_addBack_3 ?_
  suffices H : ∀ m i c J1 lv0, i + m = n → c ≤ 1 → yh D i = yh X i + yh V i + c → (∀ r, r ≠ e + 11 → J1 r = J r) → (∀ p, p < j ∨ j + i ≤ p → J1 (e + 11) p = J (e + 11) p) → (∀ p, p < i → J1 (e + 11) (j + p) = nI (yg D p)) → (∀ z ∈ ([(0, .ref e), (1, .int (nI j)), (2, .int (nI n)), (3, .int (nI c)), (4, .int (nI i))] : List (Nat × Value)), z ∈ lv0) → aw g l mX0_addBack 5 lv0 [] (xJ h J1) Q from H n 0 0 J _ (by omega) (by omega) (by rw [yh_0, yh_0, yh_0]; omega) (fun _ _ => rfl) (fun _ _ => rfl) (fun p hp => absurd hp (by omega)) (fun z hz => hz)
  intro m
  induction m with
  | zero =>
    intro i c J1 lv0 hi hc1 hz ho ho2 hP hlv
    refine aw_lv hlv ?_
    obtain rfl : i = n := by omega
    rw [yh_small hVB] at hz
    have g1 := yg_lt X i
    have e1 := yh_eq X i
    have e3 := yh_eq D i
    have g3 := yg_lt D i
    have dg : J1 (e + 11) (j + i) = nI (yg X i) := by rw [ho2 (j + i) (by omega)]; exact hX i (by omega)
    refine sX0_addBack_5 rfl ?_
    refine sX0_addBack_7 rfl ?_
    refine nX0_addBack_8 (by omega) (by omega) (fun _ => ?_) (fun hc => absurd hc (by omega))
    refine sX0_addBack_55 rfl ?_
    refine jX0_addBack_56 (by assumption) (by assumption) ?_
    refine sX0_addBack_59 rfl ?_
    refine sX0_addBack_60 rfl ?_
    refine nX0_addBack_61 ?_
    refine sX0_addBack_62 rfl ?_
    refine jX0_addBack_63 (by assumption) (by assumption) ?_
    refine sX0_addBack_66 rfl ?_
    refine sX0_addBack_67 rfl ?_
    refine nX0_addBack_68 ?_
    refine jX0_addBack_69 (by assumption) (by omega) (by omega) ?_
    rw [dg]
    refine sX0_addBack_70 rfl ?_
    refine nX0_addBack_71 ?_
    refine sX0_addBack_72 ?_
    refine sX0_addBack_74 ?_
    rw [nI_mask (by omega)]
    refine jX0_addBack_75 (by assumption) (by omega) (by omega) ?_
    refine sX0_addBack_76 ?_
    refine k _ (fun r hr => by rw [xup2_r hr]; exact ho r hr) (fun p hp => ?_) (fun p hp => ?_)
    · rw [xup2_n (by omega)]; exact ho2 p (by omega)
    · by_cases e2 : p = i
      · subst e2; rw [xup2_s]; congr 1; omega
      · rw [xup2_n (by omega)]; exact hP p (by omega)
  | succ m ih =>
    intro i c J1 lv0 hi hc1 hz ho ho2 hP hlv
    refine aw_lv hlv ?_
    have g1 := yg_lt X i
    have g2 := yg_lt V i
    have g3 := yg_lt D i
    have e1 := yh_eq X i
    have e2 := yh_eq V i
    have e3 := yh_eq D i
    have dg : J1 (e + 11) (j + i) = nI (yg X i) := by rw [ho2 (j + i) (by omega)]; exact hX i (by omega)
    have dv : J1 (e + 12) i = nI (yg V i) := by rw [ho (e + 12) (by omega)]; exact hV i (by omega)
    refine sX0_addBack_5 rfl ?_
    refine sX0_addBack_7 rfl ?_
    refine nX0_addBack_8 (by omega) (by omega) (fun hc => absurd hc (by omega)) (fun _ => ?_)
    refine sX0_addBack_11 rfl ?_
    refine sX0_addBack_12 rfl ?_
    refine jX0_addBack_13 (by assumption) (by assumption) ?_
    refine sX0_addBack_16 rfl ?_
    refine sX0_addBack_18 rfl ?_
    refine nX0_addBack_19 ?_
    rw [Nat.add_comm i j]
    refine jX0_addBack_20 (by assumption) (by omega) (by omega) ?_
    rw [dg]
    refine sX0_addBack_21 rfl ?_
    refine jX0_addBack_22 (by assumption) (by assumption) ?_
    refine sX0_addBack_25 rfl ?_
    refine jX0_addBack_27 (by assumption) (by omega) (by omega) ?_
    rw [dv]
    refine nX0_addBack_28 ?_
    refine nX0_addBack_29 ?_
    obtain ⟨w, hw⟩ : ∃ w, w = c + (yg X i + yg V i) := ⟨_, rfl⟩
    rw [← hw]
    refine sX0_addBack_30 ?_
    refine sX0_addBack_31 rfl ?_
    refine jX0_addBack_32 (by assumption) (by assumption) ?_
    refine sX0_addBack_35 rfl ?_
    refine sX0_addBack_37 rfl ?_
    refine nX0_addBack_38 ?_
    rw [Nat.add_comm i j]
    refine sX0_addBack_39 rfl ?_
    refine sX0_addBack_40 ?_
    refine sX0_addBack_42 ?_
    rw [nI_mask (by omega)]
    refine jX0_addBack_43 (by assumption) (by omega) (by omega) ?_
    refine sX0_addBack_44 rfl ?_
    refine nX0_addBack_45 ?_
    refine sX0_addBack_47 ?_
    rw [pk_ushrN (by omega) _ 30 (by decide), show (2 : Nat) ^ 30 = 1073741824 from rfl]
    refine sX0_addBack_48 ?_
    refine nX0_addBack_49 rfl ?_
    refine sX0_addBack_52 ?_
    refine ih (i + 1) (w / 1073741824) _ _ (by omega) (by omega) (by omega) (fun r hr => by rw [xup2_r hr]; exact ho r hr) (fun p hp => ?_) (fun p hp => ?_) (fun z hz => by
      simp only [List.mem_cons, List.not_mem_nil, or_false] at hz
      rcases hz with rfl | rfl | rfl | rfl | rfl <;> exact xlk_mem rfl)
    · rw [xup2_n (by omega)]; exact ho2 p (by omega)
    · by_cases e5 : p = i
      · subst e5; rw [xup2_s]; congr 1; omega
      · rw [xup2_n (by omega)]; exact hP p (by omega)
end Knuth1
