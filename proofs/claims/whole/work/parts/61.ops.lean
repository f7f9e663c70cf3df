theorem sg_mul {x s : Int32} (hx : x = -1 ∨ x = 0 ∨ x = 1) (hs : s = -1 ∨ s = 0 ∨ s = 1) : (x * s < 0 ↔ ¬ (x = 0 ∨ s = 0 ∨ x = s)) ∧ (¬ (x = 0 ∨ s = 0 ∨ x = s) → x * (-1) = s) := by
  rcases hx with rfl | rfl | rfl <;> rcases hs with rfl | rfl | rfl <;> decide
theorem sg_neg {x : Int32} (hx : x = -1 ∨ x = 0 ∨ x = 1) : -x = -1 ∨ -x = 0 ∨ -x = 1 := by
  rcases hx with rfl | rfl | rfl <;> decide
theorem sg_neg0 {x : Int32} (hx : x = -1 ∨ x = 0 ∨ x = 1) : -x = 0 ↔ x = 0 := by
  rcases hx with rfl | rfl | rfl <;> decide
theorem sg_prod0 {x y : Int32} (hx : x = -1 ∨ x = 0 ∨ x = 1) (hy : y = -1 ∨ y = 0 ∨ y = 1) : x * y = 0 ↔ x = 0 ∨ y = 0 := by
  rcases hx with rfl | rfl | rfl <;> rcases hy with rfl | rfl | rfl <;> decide
theorem vRed_eq {s : Int32} {t d : Nat} {p : Nat → Int32} (hs : t = 0 → s = 0) : vRed (s, t, d, p) = (s, if t = 0 then 0 else t / Nat.gcd t d, if t = 0 then 1 else d / Nat.gcd t d, p) := by
  unfold vRed
  by_cases z : t = 0
  · rw [if_pos z, if_pos z, if_pos z, hs z]
  · rw [if_neg z, if_neg z, if_neg z]
/-- what an act leaves: the frame -/
def yoA (e a : Nat) (J J' : Nat → Nat → Int32) : Prop := (∀ r, r < e ∨ e + 13 ≤ r → r < a ∨ a + 6 ≤ r → J' r = J r) ∧ J' e 0 = J e 0
/-- what comes before it is in lowest terms -/
def rawP (e a : Nat) (J J' : Nat → Nat → Int32) (s : Int32) (t d : Nat) (p : Nat → Int32) : Prop := (∀ r, r < e ∨ e + 13 ≤ r → r ≠ a + 5 → J' r = J r) ∧ J' e 0 = J e 0 ∧ J' e 3 = s ∧ NJ J' (e + 1) 128 t ∧ NJ J' (e + 3) 128 d ∧ ∀ j, j < 8 → J' (a + 5) j = p j
section Ops
variable {g : xG} {l : Launch} {h : xH} {J : Nat → Nat → Int32} {Q : Option Value → xH → Prop}
theorem c_addUp {e a b : Nat} {x y : Vl} {s : Int32} (hB : CB h e) (hA : CV h a) (hD : CV h b) (hne : b ≠ a) (hx : VJ J a x) (hy : VJ J b y) (wx : vWf x) (wy : vWf y) (hs : s = y.1 ∨ s = -y.1) (k7 : ¬ pEq x.2.2.2 y.2.2.2 → Q (some (.int (nI 7))) (xJ h J)) (k : ∀ J' z, pEq x.2.2.2 y.2.2.2 → vRed (vSum x y s) = vRed z → (z.2.1 = 0 → z.1 = 0) → 0 < z.2.2.1 → rawP e a J J' z.1 z.2.1 z.2.2.1 x.2.2.2 → z.2.2.2 = x.2.2.2 → Q (some (.int (nI 0))) (xJ h J')) : ac g l mX0_addUp [.ref e, .ref a, .ref b, .int s] (xJ h J) Q := by
  refine ac_of (by decide) (Nat.le_of_ble_eq_true rfl) ?_
  have fA := CV_B hA hB
  have fD := CV_B hD hB
  obtain ⟨t1, ⟨p1, p2, p4, p5, p6, p7, p8⟩, ⟨d1, d2, d3, d4, d5⟩, t11, t12⟩ := hB
  have hA0 := hA
  have hD0 := hD
  obtain ⟨a1, ⟨a2, a3, a4⟩, a5, a6, a7⟩ := hA
  obtain ⟨b1, ⟨b2, b3, b4⟩, b5, b6, b7⟩ := hD
  have f1 := d1.1
  have f2 := d2.1
  have f3 := d3.1
  have f4 := d4.1
  obtain ⟨x1, x2, x3, x4⟩ := hx
  obtain ⟨y1, y2, y3, y4⟩ := hy
  obtain ⟨wx1, wx2, wx3, wx4, wx5, wx6, wx7⟩ := wx
  obtain ⟨wy1, wy2, wy3, wy4, wy5, wy6, wy7⟩ := wy
  have hs3 : s = -1 ∨ s = 0 ∨ s = 1 := by
    rcases hs with rfl | rfl
    · exact wy5
    · exact sg_neg wy5
  have hs0 : s = 0 ↔ y.2.1 = 0 := by
    rcases hs with rfl | rfl
    · exact wy4
    · exact (sg_neg0 wy5).trans wy4
  have eP : pEq (J (a + 5)) (J (b + 5)) ↔ pEq x.2.2.2 y.2.2.2 := ⟨fun z j hj => by rw [← x4 j hj, ← y4 j hj]; exact z j hj, fun z j hj => by rw [x4 j hj, y4 j hj]; exact z j hj⟩
  refine sX0_addUp_0 rfl ?_
  refine sX0_addUp_1 rfl ?_
  refine jX0_addUp_2 (Nat.le_of_ble_eq_true rfl) (by assumption) ?_
  refine c_hasPowersOf hA0 hD0 (fun hp => ?_) (fun hp => ?_)
  rotate_left
  · refine sX0_addUp_5 (fun hc => absurd rfl hc) (fun _ => ?_)
    refine nX0_addUp_8 ?_
    exact sX0_addUp_10 (k7 (fun z => hp (eP.mpr z)))
  refine sX0_addUp_5 (fun _ => ?_) (fun hc => absurd hc (by decide))
  have hpE := eP.mp hp
  have yy := y1024
  have pl := zprod wx2 wy3
  have pr := zprod wy2 wx3
  have pb := zprod wx3 wy3
  refine sX0_addUp_11 rfl ?_
  refine jX0_addUp_12 (by assumption) (by assumption) ?_
  refine sX0_addUp_15 rfl ?_
  refine jX0_addUp_16 (by assumption) (by assumption) ?_
  refine sX0_addUp_19 rfl ?_
  refine jX0_addUp_20 (by assumption) (by assumption) ?_
  refine jX0_addUp_23 (Nat.le_of_ble_eq_true rfl) (by assumption) ?_
  refine c_setProduct d3 a5 b6 (by omega) (by omega) (by omega) (by omega) (by omega) (by omega) x2 y3 (by omega) (fun J1 o1 n1 => ?_)
  refine sX0_addUp_26 rfl ?_
  refine jX0_addUp_27 (by assumption) (by assumption) ?_
  refine sX0_addUp_30 rfl ?_
  refine jX0_addUp_31 (by assumption) (by assumption) ?_
  refine sX0_addUp_34 rfl ?_
  refine jX0_addUp_35 (by assumption) (by assumption) ?_
  refine jX0_addUp_38 (Nat.le_of_ble_eq_true rfl) (by assumption) ?_
  refine c_setProduct d4 b5 a6 (by omega) (by omega) (by omega) (by omega) (by omega) (by omega) (NJ_c (o1 _ (by omega) (by omega)) (o1 _ (by omega) (by omega)) y2) (NJ_c (o1 _ (by omega) (by omega)) (o1 _ (by omega) (by omega)) x3) (by omega) (fun J2 o2 n2 => ?_)
  have o2' : ∀ r, r < e ∨ e + 9 ≤ r ∨ r = e ∨ r = e + 1 ∨ r = e + 2 ∨ r = e + 3 ∨ r = e + 4 → J2 r = J r := fun r hr => by rw [o2 r (by omega) (by omega), o1 r (by omega) (by omega)]
  refine sX0_addUp_41 rfl ?_
  refine jX0_addUp_42 (by assumption) (by assumption) ?_
  refine sX0_addUp_45 rfl ?_
  refine jX0_addUp_46 (by assumption) (by assumption) ?_
  refine sX0_addUp_49 rfl ?_
  refine jX0_addUp_50 (by assumption) (by assumption) ?_
  refine jX0_addUp_53 (Nat.le_of_ble_eq_true rfl) (by assumption) ?_
  refine c_setProduct d2 a6 b6 (by omega) (by omega) (by omega) (by omega) (by omega) (by omega) (NJ_c (o2' _ (by omega)) (o2' _ (by omega)) x3) (NJ_c (o2' _ (by omega)) (o2' _ (by omega)) y3) (by omega) (fun J3 o3 n3 => ?_)
  have o3' : ∀ r, r < e ∨ e + 13 ≤ r ∨ r = e ∨ r = e + 1 ∨ r = e + 2 → J3 r = J r := fun r hr => by rw [o3 r (by omega) (by omega), o2' r (by omega)]
  have nl : NJ J3 (e + 5) 128 (x.2.1 * y.2.2.1) := NJ_c (o3 _ (by omega) (by omega)) (o3 _ (by omega) (by omega)) (NJ_c (o2 _ (by omega) (by omega)) (o2 _ (by omega) (by omega)) n1)
  have nr : NJ J3 (e + 7) 128 (y.2.1 * x.2.2.1) := NJ_c (o3 _ (by omega) (by omega)) (o3 _ (by omega) (by omega)) n2
  have sx : J3 a 0 = x.1 := by rw [o3' a (by omega)]; exact x1
  have hb0 : 0 < x.2.2.1 * y.2.2.1 := Nat.mul_pos wx1 wy1
  obtain ⟨L, hL⟩ : ∃ L, L = x.2.1 * y.2.2.1 := ⟨_, rfl⟩
  obtain ⟨R, hR⟩ : ∃ R, R = y.2.1 * x.2.2.1 := ⟨_, rfl⟩
  obtain ⟨D, hDD⟩ : ∃ D, D = x.2.2.1 * y.2.2.1 := ⟨_, rfl⟩
  have eSum : vSum x y s = cIf (x.1 = 0 ∨ s = 0 ∨ x.1 = s) (cIf (x.1 = 0) s x.1, L + R, D, x.2.2.2) (cIf (R ≤ L) (x.1, L - R, D, x.2.2.2) (s, R - L, D, x.2.2.2)) := by rw [hL, hR, hDD]; rfl
  rw [← hL] at nl pl
  rw [← hR] at nr pr
  rw [← hDD] at n3 hb0
  have hL0 : L = 0 ↔ x.1 = 0 := by
    rw [wx4, hL]
    constructor
    · intro z; rcases Nat.mul_eq_zero.mp z with q | q; exact q; omega
    · intro z; rw [z, Nat.zero_mul]
  have hR0 : R = 0 ↔ s = 0 := by
    rw [hs0, hR]
    constructor
    · intro z; rcases Nat.mul_eq_zero.mp z with q | q; exact q; omega
    · intro z; rw [z, Nat.zero_mul]
  obtain ⟨m1, m2⟩ := sg_mul wx5 hs3
  have fin : ∀ J4 t sg, (∀ r, r < e ∨ e + 3 ≤ r → J4 r = J3 r) → J4 e 0 = J3 e 0 → J4 e 3 = sg → NJ J4 (e + 1) 128 t → rawP e a J J4 sg t D x.2.2.2 := by
    intro J4 t sg o4 s4 g4 n4
    refine ⟨fun r z1 z2 => by rw [o4 r (by omega), o3' r (by omega)], by rw [s4, o3' e (by omega)], g4, n4, NJ_c (o4 _ (by omega)) (o4 _ (by omega)) n3, fun j hj => ?_⟩
    rw [o4 _ (by omega), o3' _ (by omega)]; exact x4 j hj
  refine sX0_addUp_56 rfl ?_
  refine jX0_addUp_57 (by assumption) ?_
  rw [sx]
  refine sX0_addUp_60 rfl ?_
  refine sX0_addUp_61 ?_
  refine sX0_addUp_62 (fun hc => ?_) (fun hc => ?_)
  · have hno := m1.mp hc
    have hm := m2 hno
    rw [cIf_f hno] at eSum
    have hx0 : x.1 ≠ 0 := fun z => hno (Or.inl z)
    refine sX0_addUp_101 rfl ?_
    refine jX0_addUp_102 (by assumption) (by assumption) ?_
    refine sX0_addUp_105 rfl ?_
    refine jX0_addUp_106 (by assumption) (by assumption) ?_
    refine jX0_addUp_109 (Nat.le_of_ble_eq_true rfl) (by assumption) ?_
    have sub : ∀ J3' sg, (∀ r, r ≠ e → J3' r = J3 r) → J3' e 0 = J3 e 0 → J3' e 3 = sg → R ≤ L → (∀ z : Vl, z = (sg, L - R, D, x.2.2.2) → vRed (vSum x y s) = vRed z ∧ (z.2.1 = 0 → z.1 = 0)) → ∀ lv0, (∀ z ∈ ([(0, .ref e)] : List (Nat × Value)), z ∈ lv0) → aw g l mX0_addUp 130 lv0 [] (xJ h J3') Q := by
      intro J3' sg q1 q2 q3 hRL hz lv0 hlv
      refine aw_lv hlv ?_
      refine sX0_addUp_130 rfl ?_
      refine jX0_addUp_131 (by assumption) (by assumption) ?_
      refine sX0_addUp_134 rfl ?_
      refine jX0_addUp_135 (by assumption) (by assumption) ?_
      refine sX0_addUp_138 rfl ?_
      refine jX0_addUp_139 (by assumption) (by assumption) ?_
      refine jX0_addUp_142 (Nat.le_of_ble_eq_true rfl) (by assumption) ?_
      refine c_setDifference d1 d3 d4 (by omega) (by omega) (by omega) (by omega) (by omega) (NJ_c (q1 _ (by omega)) (q1 _ (by omega)) nl) (NJ_c (q1 _ (by omega)) (q1 _ (by omega)) nr) hRL (by omega) (fun J4 o4 n4 => ?_)
      refine sX0_addUp_145 ?_
      refine nX0_addUp_163 ?_
      refine sX0_addUp_164 ?_
      obtain ⟨z1, z2⟩ := hz (sg, L - R, D, x.2.2.2) rfl
      exact k J4 _ hpE z1 z2 hb0 (fin J4 (L - R) sg (fun r hr => by rw [o4 r (by omega) (by omega), q1 r (by omega)]) (by rw [o4 e (by omega) (by omega)]; exact q2) (by rw [o4 e (by omega) (by omega)]; exact q3) n4) rfl
    refine c_compare5 d3 d4 (by omega) (by omega) nl nr (fun hlt => ?_) (fun heq => ?_) (fun hgt => ?_)
    · show aw g l mX0_addUp 112 _ [.int (-1)] (xJ h J3) Q
      refine sX0_addUp_112 ?_
      refine sX0_addUp_114 rfl ?_
      refine sX0_addUp_115 rfl ?_
      refine jX0_addUp_116 (by assumption) ?_
      rw [sx]
      refine sX0_addUp_119 rfl ?_
      refine sX0_addUp_121 ?_
      rw [hm]
      refine jX0_addUp_122 (by assumption) ?_
      refine sX0_addUp_125 rfl ?_
      refine sX0_addUp_127 (fun _ => ?_) (fun z => absurd (show (-1 : Int32) < 0 by decide) z)
      refine sX0_addUp_148 rfl ?_
      refine jX0_addUp_149 (by assumption) (by assumption) ?_
      refine sX0_addUp_152 rfl ?_
      refine jX0_addUp_153 (by assumption) (by assumption) ?_
      refine sX0_addUp_156 rfl ?_
      refine jX0_addUp_157 (by assumption) (by assumption) ?_
      refine jX0_addUp_160 (Nat.le_of_ble_eq_true rfl) (by assumption) ?_
      refine c_setDifference d1 d4 d3 (by omega) (by omega) (by omega) (by omega) (by omega) (NJ_c (xup2_r (by omega)) (xup2_r (by omega)) nr) (NJ_c (xup2_r (by omega)) (xup2_r (by omega)) nl) (by omega) (by omega) (fun J4 o4 n4 => ?_)
      refine nX0_addUp_163 ?_
      refine sX0_addUp_164 ?_
      rw [cIf_f (by omega)] at eSum
      exact k J4 (s, R - L, D, x.2.2.2) hpE (by rw [eSum]) (fun z => absurd z (by show ¬ R - L = 0; omega)) hb0 (fin J4 (R - L) s (fun r hr => by rw [o4 r (by omega) (by omega), xup2_r (by omega)]) (by rw [o4 e (by omega) (by omega), xup2_n (by omega)]) (by rw [o4 e (by omega) (by omega), xup2_s]) n4) rfl
    · show aw g l mX0_addUp 112 _ [.int 0] (xJ h J3) Q
      refine sX0_addUp_112 ?_
      refine sX0_addUp_114 rfl ?_
      refine sX0_addUp_115 rfl ?_
      refine jX0_addUp_116 (by assumption) ?_
      rw [sx]
      refine sX0_addUp_119 rfl ?_
      refine sX0_addUp_121 ?_
      rw [Int32.mul_zero]
      refine jX0_addUp_122 (by assumption) ?_
      refine sX0_addUp_125 rfl ?_
      refine sX0_addUp_127 (fun z => absurd z (by decide)) (fun _ => ?_)
      rw [cIf_t (by omega)] at eSum
      refine sub _ 0 (fun r hr => xup2_r hr) (xup2_n (by omega)) xup2_s (by omega) (fun z hz => ?_) _ (fun z hz => by
        simp only [List.mem_cons, List.not_mem_nil, or_false] at hz
        rcases hz with rfl; exact xlk_mem rfl)
      subst hz
      refine ⟨?_, fun _ => rfl⟩
      rw [eSum]
      unfold vRed
      rw [if_pos (show L - R = 0 by omega), if_pos (show L - R = 0 by omega)]
    · show aw g l mX0_addUp 112 _ [.int 1] (xJ h J3) Q
      refine sX0_addUp_112 ?_
      refine sX0_addUp_114 rfl ?_
      refine sX0_addUp_115 rfl ?_
      refine jX0_addUp_116 (by assumption) ?_
      rw [sx]
      refine sX0_addUp_119 rfl ?_
      refine sX0_addUp_121 ?_
      rw [Int32.mul_one]
      refine jX0_addUp_122 (by assumption) ?_
      refine sX0_addUp_125 rfl ?_
      refine sX0_addUp_127 (fun z => absurd z (by decide)) (fun _ => ?_)
      rw [cIf_t (by omega)] at eSum
      refine sub _ x.1 (fun r hr => xup2_r hr) (xup2_n (by omega)) xup2_s (by omega) (fun z hz => ?_) _ (fun z hz => by
        simp only [List.mem_cons, List.not_mem_nil, or_false] at hz
        rcases hz with rfl; exact xlk_mem rfl)
      subst hz
      exact ⟨by rw [eSum], fun z => absurd z (by show ¬ L - R = 0; omega)⟩
  · have hyes : x.1 = 0 ∨ s = 0 ∨ x.1 = s := Classical.byContradiction (fun z => hc (m1.mpr z))
    rw [cIf_t hyes] at eSum
    refine sX0_addUp_65 rfl ?_
    refine jX0_addUp_66 (by assumption) (by assumption) ?_
    refine sX0_addUp_69 rfl ?_
    refine jX0_addUp_70 (by assumption) (by assumption) ?_
    refine sX0_addUp_73 rfl ?_
    refine jX0_addUp_74 (by assumption) (by assumption) ?_
    refine jX0_addUp_77 (Nat.le_of_ble_eq_true rfl) (by assumption) ?_
    refine c_setSum d1 d3 d4 (by omega) (by omega) (by omega) (by omega) (by omega) nl nr (by omega) (fun J4 o4 n4 => ?_)
    have sx4 : J4 a 0 = x.1 := by rw [o4 a (by omega) (by omega)]; exact sx
    have s0 : L + R = 0 → cIf (x.1 = 0) s x.1 = 0 := by
      intro z
      have z1 := hL0.mp (by omega)
      have z2 := hR0.mp (by omega)
      rw [cIf_t z1]; exact z2
    have fin2 : ∀ sg lv0, sg = cIf (x.1 = 0) s x.1 → aw g l mX0_addUp 96 lv0 [.int sg, .ref e] (xJ h J4) Q := by
      intro sg lv0 hsg
      refine jX0_addUp_96 (by assumption) ?_
      refine nX0_addUp_99 ?_
      refine sX0_addUp_100 ?_
      refine k (xup2 J4 e 3 sg) (sg, L + R, D, x.2.2.2) hpE (by rw [eSum, hsg]) (fun z => by show sg = 0; rw [hsg]; exact s0 z) hb0 (fin _ (L + R) sg (fun r hr => by rw [xup2_r (by omega), o4 r (by omega) (by omega)]) (by rw [xup2_n (by omega), o4 e (by omega) (by omega)]) xup2_s (NJ_c (xup2_r (by omega)) (xup2_r (by omega)) n4)) rfl
    refine sX0_addUp_80 rfl ?_
    refine sX0_addUp_81 rfl ?_
    refine jX0_addUp_82 (by assumption) ?_
    rw [sx4]
    refine sX0_addUp_85 (fun hz => ?_) (fun hz => ?_)
    · refine sX0_addUp_95 rfl ?_
      exact fin2 s _ (by rw [cIf_t hz])
    · refine sX0_addUp_88 rfl ?_
      refine jX0_addUp_89 (by assumption) ?_
      refine sX0_addUp_92 ?_
      rw [sx4]
      exact fin2 x.1 _ (by rw [cIf_f hz])
theorem c_multiplyB {e a b : Nat} {x y : Vl} (hB : CB h e) (hA : CV h a) (hD : CV h b) (hne : b ≠ a) (hx : VJ J a x) (hy : VJ J b y) (wx : vWf x) (wy : vWf y) (k8 : ∀ J', ¬ pOk (fun k => x.2.2.2 k + y.2.2.2 k) → (∀ r, r ≠ a + 5 → J' r = J r) → Q (some (.int (nI 8))) (xJ h J')) (k : ∀ J', pOk (fun k => x.2.2.2 k + y.2.2.2 k) → rawP e a J J' (x.1 * y.1) (x.2.1 * y.2.1) (x.2.2.1 * y.2.2.1) (fun k => x.2.2.2 k + y.2.2.2 k) → Q (some (.int (nI 0))) (xJ h J')) : ac g l mX0_multiply [.ref e, .ref a, .ref b] (xJ h J) Q := by
  refine ac_of (by decide) (Nat.le_of_ble_eq_true rfl) ?_
  have fA := CV_B hA hB
  have fD := CV_B hD hB
  have far := CV_far hA hD hne
  obtain ⟨t1, ⟨p1, p2, p4, p5, p6, p7, p8⟩, ⟨d1, d2, d3, d4, d5⟩, t11, t12⟩ := hB
  have hA0 := hA
  have hD0 := hD
  obtain ⟨a1, ⟨a2, a3, a4⟩, a5, a6, a7⟩ := hA
  obtain ⟨b1, ⟨b2, b3, b4⟩, b5, b6, b7⟩ := hD
  have f1 := d1.1
  have f2 := d2.1
  obtain ⟨x1, x2, x3, x4⟩ := hx
  obtain ⟨y1, y2, y3, y4⟩ := hy
  obtain ⟨wx1, wx2, wx3, wx4, wx5, wx6, wx7⟩ := wx
  obtain ⟨wy1, wy2, wy3, wy4, wy5, wy6, wy7⟩ := wy
  have eP : ∀ j, j < 8 → 1 * J (a + 5) j + 1 * J (b + 5) j = x.2.2.2 j + y.2.2.2 j := fun j hj => by rw [x4 j hj, y4 j hj, Int32.one_mul, Int32.one_mul]
  refine sX0_multiply_0 rfl ?_
  refine sX0_multiply_1 ?_
  refine sX0_multiply_2 rfl ?_
  refine sX0_multiply_3 ?_
  refine jX0_multiply_4 (Nat.le_of_ble_eq_true rfl) (by assumption) ?_
  refine c_combinePowers hA0 hD0 (fun J1 o1 hp n1 => ?_) (fun J1 o1 hp => ?_)
  rotate_left
  · refine sX0_multiply_7 (fun hc => absurd rfl hc) (fun _ => ?_)
    refine nX0_multiply_10 ?_
    exact sX0_multiply_12 (k8 J1 (fun z => hp (pOk_c (fun j hj => (eP j hj).symm) z)) o1)
  refine sX0_multiply_7 (fun _ => ?_) (fun hc => absurd hc (by decide))
  have yy := y1024
  have pt := zprod wx2 wy2
  have pb := zprod wx3 wy3
  refine sX0_multiply_13 rfl ?_
  refine jX0_multiply_14 (by assumption) (by assumption) ?_
  refine sX0_multiply_17 rfl ?_
  refine jX0_multiply_18 (by assumption) (by assumption) ?_
  refine sX0_multiply_21 rfl ?_
  refine jX0_multiply_22 (by assumption) (by assumption) ?_
  refine jX0_multiply_25 (Nat.le_of_ble_eq_true rfl) (by assumption) ?_
  refine c_setProduct d1 a5 b5 (by omega) (by omega) (by omega) (by omega) (by omega) (by omega) (NJ_c (o1 _ (by omega)) (o1 _ (by omega)) x2) (NJ_c (o1 _ (by omega)) (o1 _ (by omega)) y2) (by omega) (fun J2 o2 n2 => ?_)
  have o2' : ∀ r, r ≠ e + 1 → r ≠ e + 2 → r ≠ a + 5 → J2 r = J r := fun r z1 z2 z3 => by rw [o2 r z1 z2, o1 r z3]
  refine sX0_multiply_28 rfl ?_
  refine jX0_multiply_29 (by assumption) (by assumption) ?_
  refine sX0_multiply_32 rfl ?_
  refine jX0_multiply_33 (by assumption) (by assumption) ?_
  refine sX0_multiply_36 rfl ?_
  refine jX0_multiply_37 (by assumption) (by assumption) ?_
  refine jX0_multiply_40 (Nat.le_of_ble_eq_true rfl) (by assumption) ?_
  refine c_setProduct d2 a6 b6 (by omega) (by omega) (by omega) (by omega) (by omega) (by omega) (NJ_c (o2' _ (by omega) (by omega) (by omega)) (o2' _ (by omega) (by omega) (by omega)) x3) (NJ_c (o2' _ (by omega) (by omega) (by omega)) (o2' _ (by omega) (by omega) (by omega)) y3) (by omega) (fun J3 o3 n3 => ?_)
  refine sX0_multiply_43 rfl ?_
  refine sX0_multiply_44 rfl ?_
  refine jX0_multiply_45 (by assumption) ?_
  rw [show J3 a 0 = x.1 by rw [o3 _ (by omega) (by omega), o2' _ (by omega) (by omega) (by omega)]; exact x1]
  refine sX0_multiply_48 rfl ?_
  refine jX0_multiply_49 (by assumption) ?_
  rw [show J3 b 0 = y.1 by rw [o3 _ (by omega) (by omega), o2' _ (by omega) (by omega) (by omega)]; exact y1]
  refine sX0_multiply_52 ?_
  refine jX0_multiply_53 (by assumption) ?_
  refine nX0_multiply_56 ?_
  refine sX0_multiply_57 (k _ (pOk_c eP hp) ⟨fun r z1 z2 => ?_, ?_, xup2_s, NJ_c (xup2_r (by omega)) (xup2_r (by omega)) (NJ_c (o3 _ (by omega) (by omega)) (o3 _ (by omega) (by omega)) n2), NJ_c (xup2_r (by omega)) (xup2_r (by omega)) n3, fun j hj => ?_⟩)
  · rw [xup2_r (by omega), o3 r (by omega) (by omega), o2' r (by omega) (by omega) z2]
  · rw [xup2_n (by omega), o3 e (by omega) (by omega), o2' e (by omega) (by omega) (by omega)]
  · rw [xup2_r (by omega), o3 _ (by omega) (by omega), o2 _ (by omega) (by omega), n1 j hj]; exact eP j hj
theorem c_divideB {e a b : Nat} {x y : Vl} (hB : CB h e) (hA : CV h a) (hD : CV h b) (hne : b ≠ a) (hx : VJ J a x) (hy : VJ J b y) (wx : vWf x) (wy : vWf y) (k6 : y.1 = 0 → Q (some (.int (nI 6))) (xJ h J)) (k8 : ∀ J', y.1 ≠ 0 → ¬ pOk (fun k => x.2.2.2 k + -y.2.2.2 k) → (∀ r, r ≠ a + 5 → J' r = J r) → Q (some (.int (nI 8))) (xJ h J')) (k : ∀ J', y.1 ≠ 0 → pOk (fun k => x.2.2.2 k + -y.2.2.2 k) → rawP e a J J' (x.1 * y.1) (x.2.1 * y.2.2.1) (x.2.2.1 * y.2.1) (fun k => x.2.2.2 k + -y.2.2.2 k) → Q (some (.int (nI 0))) (xJ h J')) : ac g l mX0_divide [.ref e, .ref a, .ref b] (xJ h J) Q := by
  refine ac_of (by decide) (Nat.le_of_ble_eq_true rfl) ?_
  have fA := CV_B hA hB
  have fD := CV_B hD hB
  have far := CV_far hA hD hne
  obtain ⟨t1, ⟨p1, p2, p4, p5, p6, p7, p8⟩, ⟨d1, d2, d3, d4, d5⟩, t11, t12⟩ := hB
  have hA0 := hA
  have hD0 := hD
  obtain ⟨a1, ⟨a2, a3, a4⟩, a5, a6, a7⟩ := hA
  obtain ⟨b1, ⟨b2, b3, b4⟩, b5, b6, b7⟩ := hD
  have f1 := d1.1
  have f2 := d2.1
  obtain ⟨x1, x2, x3, x4⟩ := hx
  obtain ⟨y1, y2, y3, y4⟩ := hy
  obtain ⟨wx1, wx2, wx3, wx4, wx5, wx6, wx7⟩ := wx
  obtain ⟨wy1, wy2, wy3, wy4, wy5, wy6, wy7⟩ := wy
  have eP : ∀ j, j < 8 → 1 * J (a + 5) j + (-1) * J (b + 5) j = x.2.2.2 j + -y.2.2.2 j := fun j hj => by rw [x4 j hj, y4 j hj, Int32.one_mul, Int32.neg_mul, Int32.one_mul]
  refine sX0_divide_0 rfl ?_
  refine jX0_divide_1 (by assumption) ?_
  rw [y1]
  refine sX0_divide_4 (fun hy0 => ?_) (fun hy0 => ?_)
  rotate_left
  · refine nX0_divide_7 ?_
    exact sX0_divide_9 (k6 hy0)
  refine sX0_divide_10 rfl ?_
  refine sX0_divide_11 ?_
  refine sX0_divide_12 rfl ?_
  refine sX0_divide_13 ?_
  refine jX0_divide_14 (Nat.le_of_ble_eq_true rfl) (by assumption) ?_
  refine c_combinePowers hA0 hD0 (fun J1 o1 hp n1 => ?_) (fun J1 o1 hp => ?_)
  rotate_left
  · refine sX0_divide_17 (fun hc => absurd rfl hc) (fun _ => ?_)
    refine nX0_divide_20 ?_
    exact sX0_divide_22 (k8 J1 hy0 (fun z => hp (pOk_c (fun j hj => (eP j hj).symm) z)) o1)
  refine sX0_divide_17 (fun _ => ?_) (fun hc => absurd hc (by decide))
  have yy := y1024
  have pt := zprod wx2 wy3
  have pb := zprod wx3 wy2
  refine sX0_divide_23 rfl ?_
  refine jX0_divide_24 (by assumption) (by assumption) ?_
  refine sX0_divide_27 rfl ?_
  refine jX0_divide_28 (by assumption) (by assumption) ?_
  refine sX0_divide_31 rfl ?_
  refine jX0_divide_32 (by assumption) (by assumption) ?_
  refine jX0_divide_35 (Nat.le_of_ble_eq_true rfl) (by assumption) ?_
  refine c_setProduct d1 a5 b6 (by omega) (by omega) (by omega) (by omega) (by omega) (by omega) (NJ_c (o1 _ (by omega)) (o1 _ (by omega)) x2) (NJ_c (o1 _ (by omega)) (o1 _ (by omega)) y3) (by omega) (fun J2 o2 n2 => ?_)
  have o2' : ∀ r, r ≠ e + 1 → r ≠ e + 2 → r ≠ a + 5 → J2 r = J r := fun r z1 z2 z3 => by rw [o2 r z1 z2, o1 r z3]
  refine sX0_divide_38 rfl ?_
  refine jX0_divide_39 (by assumption) (by assumption) ?_
  refine sX0_divide_42 rfl ?_
  refine jX0_divide_43 (by assumption) (by assumption) ?_
  refine sX0_divide_46 rfl ?_
  refine jX0_divide_47 (by assumption) (by assumption) ?_
  refine jX0_divide_50 (Nat.le_of_ble_eq_true rfl) (by assumption) ?_
  refine c_setProduct d2 a6 b5 (by omega) (by omega) (by omega) (by omega) (by omega) (by omega) (NJ_c (o2' _ (by omega) (by omega) (by omega)) (o2' _ (by omega) (by omega) (by omega)) x3) (NJ_c (o2' _ (by omega) (by omega) (by omega)) (o2' _ (by omega) (by omega) (by omega)) y2) (by omega) (fun J3 o3 n3 => ?_)
  refine sX0_divide_53 rfl ?_
  refine sX0_divide_54 rfl ?_
  refine jX0_divide_55 (by assumption) ?_
  rw [show J3 a 0 = x.1 by rw [o3 _ (by omega) (by omega), o2' _ (by omega) (by omega) (by omega)]; exact x1]
  refine sX0_divide_58 rfl ?_
  refine jX0_divide_59 (by assumption) ?_
  rw [show J3 b 0 = y.1 by rw [o3 _ (by omega) (by omega), o2' _ (by omega) (by omega) (by omega)]; exact y1]
  refine sX0_divide_62 ?_
  refine jX0_divide_63 (by assumption) ?_
  refine nX0_divide_66 ?_
  refine sX0_divide_67 (k _ hy0 (pOk_c eP hp) ⟨fun r z1 z2 => ?_, ?_, xup2_s, NJ_c (xup2_r (by omega)) (xup2_r (by omega)) (NJ_c (o3 _ (by omega) (by omega)) (o3 _ (by omega) (by omega)) n2), NJ_c (xup2_r (by omega)) (xup2_r (by omega)) n3, fun j hj => ?_⟩)
  · rw [xup2_r (by omega), o3 r (by omega) (by omega), o2' r (by omega) (by omega) z2]
  · rw [xup2_n (by omega), o3 e (by omega) (by omega), o2' e (by omega) (by omega) (by omega)]
  · rw [xup2_r (by omega), o3 _ (by omega) (by omega), o2 _ (by omega) (by omega), n1 j hj]; exact eP j hj
theorem c_setRaised {e o b B w m : Nat} (hB : CB h e) (ho : o = e + 1 ∨ o = e + 3) (hD : CN h b 18) (hb1 : b < e ∨ e + 13 ≤ b) (hb : J e 0 = nI B) (hb2 : B ≤ 512) (hw : NJ J b 18 w) (hw2 : w < 2 ^ 512) (hm : m ≤ 1000) (k : ∀ J' i, (∀ r, r ≠ e + 5 → r ≠ e + 6 → r ≠ o → r ≠ o + 1 → J' r = J r) → i ≤ m → (i = m ∨ 2 ^ B ≤ w ^ i) → w ^ i < yB 128 → NJ J' o 128 (w ^ i) → Q none (xJ h J')) : ac g l mX0_setRaised [.ref e, .ref o, .ref b, .int (nI m)] (xJ h J) Q := by
  refine ac_of (by decide) (Nat.le_of_ble_eq_true rfl) ?_
  obtain ⟨t1, ⟨p1, p2, p4, p5, p6, p7, p8⟩, ⟨d1, d2, d3, d4, d5⟩, t11, t12⟩ := hB
  have dO : CN h o 128 := by rcases ho with rfl | rfl; exact d1; exact d2
  have f3 := d3.1
  have fo := dO.1
  have nob := CN_ne dO hD (by omega)
  have n3b := CN_ne d3 hD (by omega)
  refine sX0_setRaised_0 rfl ?_
  refine nX0_setRaised_1 ?_
  refine jX0_setRaised_2 (Nat.le_of_ble_eq_true rfl) (by assumption) ?_
  refine c_setSmall5 dO (by omega) (by omega) (by omega) (fun J1 o1 n1 => ?_)
  refine nX0_setRaised_5 ?_
  refine sX0_setRaised_6 ?_
  suffices H : ∀ n i J2 lv0, i + n = m → (∀ r, r ≠ e + 5 → r ≠ e + 6 → r ≠ o → r ≠ o + 1 → J2 r = J r) → NJ J2 o 128 (w ^ i) → (∀ z ∈ ([(0, .ref e), (1, .ref o), (2, .ref b), (3, .int (nI m)), (4, .int (nI i))] : List (Nat × Value)), z ∈ lv0) → aw g l mX0_setRaised 8 lv0 [] (xJ h J2) Q from H m 0 J1 _ (by omega) (fun r z1 z2 z3 z4 => o1 r z3 z4) (by rw [Nat.pow_zero]; exact n1) (fun z hz => by
      simp only [List.mem_cons, List.not_mem_nil, or_false] at hz
      rcases hz with rfl | rfl | rfl | rfl | rfl <;> exact xlk_mem rfl)
  intro n
  induction n with
  | zero =>
    intro i J2 lv0 hi o2 n2 hlv
    refine aw_lv hlv ?_
    obtain rfl : i = m := by omega
    refine sX0_setRaised_8 rfl ?_
    refine sX0_setRaised_10 rfl ?_
    refine nX0_setRaised_11 (by omega) (by omega) (fun _ => ?_) (fun hc => absurd hc (by omega))
    exact sX0_setRaised_48 (k J2 i o2 (Nat.le_refl _) (Or.inl rfl) (NJ_lt n2) n2)
  | succ n ih =>
    intro i J2 lv0 hi o2 n2 hlv
    refine aw_lv hlv ?_
    have b2 : J2 e 0 = nI B := by rw [o2 e (by omega) (by omega) (by omega) (by omega)]; exact hb
    have w2 : NJ J2 b 18 w := NJ_c (o2 _ (by omega) (by omega) (by omega) (by omega)) (o2 _ (by omega) (by omega) (by omega) (by omega)) hw
    refine sX0_setRaised_8 rfl ?_
    refine sX0_setRaised_10 rfl ?_
    refine nX0_setRaised_11 (by omega) (by omega) (fun hc => absurd hc (by omega)) (fun _ => ?_)
    refine sX0_setRaised_14 rfl ?_
    refine jX0_setRaised_15 (Nat.le_of_ble_eq_true rfl) (by assumption) ?_
    refine c_bitLength dO (by omega) n2 (fun L hL hL2 => ?_)
    show aw g l mX0_setRaised 18 _ [.int (nI L)] (xJ h J2) Q
    refine sX0_setRaised_18 rfl ?_
    refine jX0_setRaised_19 (by assumption) ?_
    rw [b2]
    refine nX0_setRaised_22 (by omega) (by omega) (fun hc => ?_) (fun hc => ?_)
    · exact sX0_setRaised_48 (k J2 i o2 (by omega) (Or.inr ((zL_le hL).mp (by omega))) (NJ_lt n2) n2)
    have lw : w ^ i < 2 ^ B := Nat.not_le.mp (fun z => absurd ((zL_le hL).mpr z) (by omega))
    have lb : 2 ^ B ≤ 2 ^ 512 := Nat.pow_le_pow_right (by decide) hb2
    have pp := zprod (Nat.lt_of_lt_of_le lw lb) hw2
    have yy := y1024
    refine sX0_setRaised_25 rfl ?_
    refine jX0_setRaised_26 (by assumption) (by assumption) ?_
    refine sX0_setRaised_29 rfl ?_
    refine sX0_setRaised_30 rfl ?_
    refine jX0_setRaised_31 (Nat.le_of_ble_eq_true rfl) (by assumption) ?_
    refine c_setProduct d3 dO hD (by omega) (by omega) (by omega) (by omega) (by omega) (by omega) n2 w2 (by omega) (fun J3 o3 n3 => ?_)
    refine sX0_setRaised_34 rfl ?_
    refine sX0_setRaised_35 rfl ?_
    refine jX0_setRaised_36 (by assumption) (by assumption) ?_
    refine jX0_setRaised_39 (Nat.le_of_ble_eq_true rfl) (by assumption) ?_
    refine c_copy5 dO d3 (by omega) (by omega) (by omega) n3 (by omega) (fun J4 o4 n4 => ?_)
    refine nX0_setRaised_42 rfl ?_
    refine sX0_setRaised_45 ?_
    refine ih (i + 1) J4 _ (by omega) (fun r z1 z2 z3 z4 => by rw [o4 r z3 z4, o3 r z1 z2]; exact o2 r z1 z2 z3 z4) (NJ_v n4 (Nat.pow_succ ..).symm) (fun z hz => by
      simp only [List.mem_cons, List.not_mem_nil, or_false] at hz
      rcases hz with rfl | rfl | rfl | rfl | rfl <;> exact xlk_mem rfl)
end Ops
