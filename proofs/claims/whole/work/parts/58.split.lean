theorem nI_mask' (n : Nat) : nI n &&& 1073741823 = nI (n % 1073741824) := by
  have e : nI n = nI (n % 4294967296) := by
    apply Int32.toBitVec_inj.mp
    show BitVec.ofNat 32 n = BitVec.ofNat 32 (n % 4294967296)
    apply BitVec.eq_of_toNat_eq
    rw [BitVec.toNat_ofNat, BitVec.toNat_ofNat]
    omega
  rw [e, nI_mask (by omega)]
  congr 1
  omega
theorem lN_shrS {n s : Nat} (h : n < 2 ^ 62) (hs : s < 64) : lN n >>> ((nI s).toInt64 &&& 63) = lN (n / 2 ^ s) := by
  refine pf_shr (d := s) ?_ h
  rw [wb_c s hs, wb_tb, wb_sm s hs, BitVec.toNat_ofNat]
  omega
theorem un_shift {R F i : Nat} (hF : ∃ G, 1073741824 = F * G) (hF0 : 0 < F) : (yg R (i + 1) * 1073741824 + yg R i) / F % 1073741824 = yg (R / F) i := by
  obtain ⟨G, hG⟩ := hF
  show _ = yh (R / F) i % 1073741824
  rw [yh_div]
  have e1 := yh_eq R i
  have e2 := yh_eq R (i + 1)
  obtain ⟨X, hX⟩ : ∃ X, X = yh R (i + 1 + 1) := ⟨_, rfl⟩
  rw [← hX] at e2
  obtain ⟨p, hp⟩ : ∃ p, p = yg R (i + 1) * 1073741824 + yg R i := ⟨_, rfl⟩
  have e3 : yh R i = p + F * (G * X * 1073741824) := by
    have : F * (G * X * 1073741824) = 1073741824 * X * 1073741824 := by rw [hG, Nat.mul_assoc F G X, ← Nat.mul_assoc F (G * X), Nat.mul_assoc]
    rw [this]; omega
  rw [← hp, e3, Nat.add_mul_div_left _ _ hF0, Nat.add_mul_mod_self_right]
section Split
variable {g : xG} {l : Launch} {h : xH} {J : Nat → Nat → Int32} {Q : Option Value → xH → Prop}
def yo6 (a e : Nat) (J J' : Nat → Nat → Int32) : Prop := ∀ r, r ≠ a → r ≠ a + 1 → r ≠ e + 9 → r ≠ e + 10 → r ≠ e + 11 → r ≠ e + 12 → J' r = J r
theorem c_splitBy {e a b ca cb v w : Nat} (hB : CB h e) (hA : CN h a ca) (hD : CN h b cb) (hca : ca ≤ 128) (hcb : cb ≤ 128) (hab : b ≠ a) (hae : a ≠ e + 9) (hbe : b ≠ e + 9) (hv : NJ J a ca v) (hw : NJ J b cb w) (hw0 : 0 < w) (k : ∀ J', yo6 a e J J' → NJ J' a ca (v % w) → NJ J' (e + 9) 128 (v / w) → Q none (xJ h J')) : ac g l mX0_splitBy [.ref e, .ref a, .ref b] (xJ h J) Q := by
  refine ac_of (by decide) (Nat.le_of_ble_eq_true rfl) ?_
  have hB0 := hB
  obtain ⟨t1, ⟨p1, p2, p4, p5, p6, p7, p8⟩, ⟨-, -, -, -, hQ⟩, t11, t12⟩ := hB
  have hQ0 := hQ
  have hA0 := hA
  have hD0 := hD
  obtain ⟨m1, m2, m3⟩ := CN_ne hQ hA hae
  obtain ⟨o1, o2, o3⟩ := CN_ne hQ hD hbe
  obtain ⟨r1, r2, r3⟩ := CN_ne hA hD hab
  obtain ⟨q1, q2, q3⟩ := hQ
  obtain ⟨a1, a2, a3⟩ := hA
  obtain ⟨b1, b2, b3⟩ := hD
  have x1 : a ≠ e + 11 := fun z => by rw [z, t11] at a1; cases a1
  have x2 : a ≠ e + 12 := fun z => by rw [z, t12] at a1; cases a1
  have x3 : a + 1 ≠ e + 11 := fun z => by rw [z, t11] at a3; injection a3 with z1 z2; omega
  have x4 : a + 1 ≠ e + 12 := fun z => by rw [z, t12] at a3; injection a3 with z1 z2; omega
  have x5 : b ≠ e + 11 := fun z => by rw [z, t11] at b1; cases b1
  have x6 : b ≠ e + 12 := fun z => by rw [z, t12] at b1; cases b1
  have x7 : b + 1 ≠ e + 11 := fun z => by rw [z, t11] at b3; injection b3 with z1 z2; omega
  have x8 : b + 1 ≠ e + 12 := fun z => by rw [z, t12] at b3; injection b3 with z1 z2; omega
  obtain ⟨m, hvR, hvl⟩ := hv
  obtain ⟨n, hwR, hwl⟩ := hw
  have hn0 := yl_pos hwl hw0
  refine sX0_splitBy_0 rfl ?_
  refine jX0_splitBy_1 (by assumption) (by assumption) ?_
  refine nX0_splitBy_4 ?_
  refine jX0_splitBy_5 (by assumption) ?_
  have y0 : yo (e + 9) J (xup2 J (e + 9) 1 (nI 0)) := yo_s
  have hvR0 := NR_o hQ0 hA0 hae y0 hvR
  have hwR0 := NR_o hQ0 hD0 hbe y0 hwR
  have sz0 : xup2 J (e + 9) 1 (nI 0) (e + 9) 1 = nI 0 := by rw [xup2_s]
  obtain ⟨J0, hJ0⟩ : ∃ J0, J0 = xup2 J (e + 9) 1 (nI 0) := ⟨_, rfl⟩
  rw [← hJ0] at y0 hvR0 hwR0 sz0 ⊢
  obtain ⟨v1, v2, v3, v4⟩ := id hvR0
  obtain ⟨w1, w2, w3, w4⟩ := id hwR0
  refine sX0_splitBy_8 rfl ?_
  refine jX0_splitBy_9 (by assumption) ?_
  rw [w3]
  refine sX0_splitBy_12 ?_
  refine sX0_splitBy_13 rfl ?_
  refine jX0_splitBy_14 (by assumption) ?_
  rw [v3]
  refine sX0_splitBy_17 ?_
  refine sX0_splitBy_19 rfl ?_
  refine nX0_splitBy_20 (by omega) (fun hc => absurd hc (by omega)) (fun _ => ?_)
  refine sX0_splitBy_23 rfl ?_
  refine sX0_splitBy_24 rfl ?_
  refine jX0_splitBy_25 (Nat.le_of_ble_eq_true rfl) (by assumption) ?_
  have more : w ≤ v → aw g l mX0_splitBy 32 [(0, .ref e), (1, .ref a), (2, .ref b), (3, .int (nI n)), (4, .int (nI m))] [] (xJ h J0) Q := by
    intro hwv
    have hnm : n ≤ m := yl_le hwl (Nat.lt_of_le_of_lt hwv v2)
    have hB30 : yB 1 = 1073741824 := rfl
    refine sX0_splitBy_32 rfl ?_
    refine nX0_splitBy_33 ?_
    refine nX0_splitBy_34 (by omega) (by omega) (fun hn1 => ?_) (fun hn1 => ?_)
    · -- two digits or more
      have g1 := yg_lt w (n - 1)
      obtain ⟨tp, tp0⟩ := yl_top hwl hn0
      refine sX0_splitBy_63 rfl ?_
      refine jX0_splitBy_64 (by assumption) (by assumption) ?_
      refine sX0_splitBy_67 rfl ?_
      refine nX0_splitBy_68 ?_
      refine nX0_splitBy_69 (by omega) ?_
      refine jX0_splitBy_70 (by assumption) (by omega) (by omega) ?_
      rw [w4 (n - 1) (by omega)]
      refine sX0_splitBy_71 (Nat.le_of_ble_eq_true rfl) ?_
      refine c_nlz tp0 (by omega) (fun r hr hr1 hr2 => ?_)
      have hr3 : 2 ≤ r := by
        rcases Nat.lt_or_ge r 2 with z | z
        · have : 2 ^ 30 ≤ 2 ^ (31 - r) := Nat.pow_le_pow_right (by decide) (by omega)
          omega
        · exact z
      obtain ⟨sh, rfl⟩ : ∃ sh, r = sh + 2 := ⟨r - 2, by omega⟩
      show aw g l mX0_splitBy 74 _ [.int (nI (sh + 2))] (xJ h J0) Q
      refine nX0_splitBy_74 ?_
      refine nX0_splitBy_75 (by omega) ?_
      rw [Nat.add_sub_cancel]
      obtain ⟨F, hF⟩ : ∃ F, F = 2 ^ sh := ⟨_, rfl⟩
      have hF0 : 0 < F := by rw [hF]; exact Nat.pow_pos (by decide)
      have hFG : ∃ G, 1073741824 = F * G := ⟨2 ^ (30 - sh), by rw [hF, ← Nat.pow_add, show sh + (30 - sh) = 30 by omega]⟩
      have hF29 : F * 2 ^ (29 - sh) = 536870912 := by rw [hF, ← Nat.pow_add, show sh + (29 - sh) = 29 by omega]
      have hF30 : F * 2 ^ (30 - sh) = 1073741824 := by rw [hF, ← Nat.pow_add, show sh + (30 - sh) = 30 by omega]
      rw [show 31 - (sh + 2) = 29 - sh by omega] at hr1
      rw [show 32 - (sh + 2) = 30 - sh by omega] at hr2
      obtain ⟨U, hU⟩ : ∃ U, U = v * F := ⟨_, rfl⟩
      obtain ⟨V, hV⟩ : ∃ V, V = w * F := ⟨_, rfl⟩
      have hw1 : yg w (n - 1) * yB (n - 1) ≤ w := by rw [← tp]; exact Nat.div_mul_le_self _ _
      have hw2 : w < (yg w (n - 1) + 1) * yB (n - 1) := by
        have := Nat.lt_div_mul_add (a := w) (yB_pos (n - 1))
        rw [← tp, Nat.add_mul, Nat.one_mul]; exact this
      have hBn : yB n = 1073741824 * yB (n - 1) := by
        have := yB_s (n - 1)
        rw [show n - 1 + 1 = n by omega, Nat.mul_comm] at this
        exact this
      have hVB : V < yB n := by
        have z1 : w * F < (yg w (n - 1) + 1) * yB (n - 1) * F := (Nat.mul_lt_mul_right hF0).mpr hw2
        have z2 : (yg w (n - 1) + 1) * yB (n - 1) * F ≤ 2 ^ (30 - sh) * yB (n - 1) * F := Nat.mul_le_mul_right _ (Nat.mul_le_mul_right _ hr2)
        have z3 : 2 ^ (30 - sh) * yB (n - 1) * F = 1073741824 * yB (n - 1) := by rw [← hF30, Nat.mul_comm _ F, Nat.mul_assoc]
        omega
      have hVlo : 536870912 * yB (n - 1) ≤ V := by
        have z1 : 2 ^ (29 - sh) * yB (n - 1) * F ≤ w * F := Nat.mul_le_mul_right _ (Nat.le_trans (Nat.mul_le_mul_right _ hr1) hw1)
        have z3 : 2 ^ (29 - sh) * yB (n - 1) * F = 536870912 * yB (n - 1) := by rw [← hF29, Nat.mul_comm _ F, Nat.mul_assoc]
        omega
      have hV0 : 0 < V := by have := yB_pos (n - 1); omega
      have hVt : 536870912 ≤ yg V (n - 1) := by
        have z1 := yh_eq V (n - 1)
        rw [show n - 1 + 1 = n by omega, yh_small hVB] at z1
        have z2 : 536870912 ≤ yh V (n - 1) := (Nat.le_div_iff_mul_le (yB_pos _)).mpr hVlo
        omega
      have hUt : yh U (m - n + 1) < V := by
        refine (Nat.div_lt_iff_lt_mul (yB_pos _)).mpr ?_
        have z1 : v * F < yB m * F := (Nat.mul_lt_mul_right hF0).mpr v2
        have z2 : F ≤ 536870912 := by rw [← hF29]; exact Nat.le_mul_of_pos_right _ (Nat.pow_pos (by decide))
        have z3 : yB m * F ≤ yB m * 536870912 := Nat.mul_le_mul_left _ z2
        have z4 : 536870912 * yB (n - 1) * yB (m - n + 1) ≤ V * yB (m - n + 1) := Nat.mul_le_mul_right _ hVlo
        rw [Nat.mul_assoc, ← yB_add, show n - 1 + (m - n + 1) = m by omega] at z4
        rw [hU]
        omega
      have hUV : U / V = v / w := by rw [hU, hV]; exact Nat.mul_div_mul_right _ _ hF0
      have hUVm : U % V = v % w * F := by rw [hU, hV]; exact Nat.mul_mod_mul_right ..
      refine sX0_splitBy_76 ?_
      refine sX0_splitBy_78 rfl ?_
      refine sX0_splitBy_79 rfl ?_
      refine sX0_splitBy_80 rfl ?_
      refine sX0_splitBy_82 rfl ?_
      refine jX0_splitBy_83 (by assumption) (by assumption) ?_
      refine jX0_splitBy_86 (Nat.le_of_ble_eq_true rfl) (by assumption) ?_
      refine c_shiftUp hB0 hA0 (by omega) t11 (Ne.symm x3) (by omega) hvR0 (by omega) (fun J1 ho1 hP1 => ?_)
      rw [← hF, ← hU] at hP1
      refine sX0_splitBy_89 rfl ?_
      refine sX0_splitBy_90 rfl ?_
      refine sX0_splitBy_91 rfl ?_
      refine sX0_splitBy_93 rfl ?_
      refine jX0_splitBy_94 (by assumption) (by assumption) ?_
      refine jX0_splitBy_97 (Nat.le_of_ble_eq_true rfl) (by assumption) ?_
      have hwR1 : NR J1 b cb w n := ⟨w1, w2, by rw [ho1 b x5]; exact w3, fun i hi => by rw [ho1 (b + 1) x7]; exact w4 i hi⟩
      refine c_shiftUp hB0 hD0 (by omega) t12 (Ne.symm x8) (by omega) hwR1 (by omega) (fun J2 ho2 hP2 => ?_)
      rw [← hF, ← hV] at hP2
      refine sX0_splitBy_100 rfl ?_
      refine sX0_splitBy_102 rfl ?_
      refine nX0_splitBy_103 (by omega) ?_
      refine sX0_splitBy_104 ?_
      suffices H : ∀ t J3 lv0, t ≤ m - n + 1 → (∀ r, r ≠ e + 10 → r ≠ e + 11 → r ≠ e + 12 → J3 r = J0 r) → (∀ i, i < n → J3 (e + 12) i = nI (yg V i)) → (∀ i, i < t → J3 (e + 11) i = nI (yg U i)) → (∀ i, i < n → J3 (e + 11) (t + i) = nI (yg (yh U t % V) i)) → (0 < t ∨ J3 (e + 11) n = nI 0) → (∀ i, t ≤ i → i < m - n + 1 → J3 (e + 10) i = nI (yg (v / w) i)) → (∀ z ∈ ([(0, .ref e), (1, .ref a), (2, .ref b), (3, .int (nI n)), (4, .int (nI m)), (5, .int (nI sh)), (6, .int (nI t - 1))] : List (Nat × Value)), z ∈ lv0) → aw g l mX0_splitBy 106 lv0 [] (xJ h J3) Q from H (m - n + 1) J2 _ (Nat.le_refl _) (fun r z1 z2 z3 => (ho2 r z3).trans (ho1 r z2)) (fun i hi => hP2 i (by omega)) (fun i hi => by rw [ho2 _ (by omega)]; exact hP1 i (by omega)) (fun i hi => by rw [ho2 _ (by omega), hP1 _ (by omega), Nat.mod_eq_of_lt hUt]; congr 1; unfold yg yh; rw [Nat.div_div_eq_div_mul, ← yB_add]) (Or.inl (by omega)) (fun i z1 z2 => absurd z2 (by omega)) (fun z hz => by
          simp only [List.mem_cons, List.not_mem_nil, or_false] at hz
          rcases hz with rfl | rfl | rfl | rfl | rfl | rfl | rfl
          · exact xlk_mem rfl
          · exact xlk_mem rfl
          · exact xlk_mem rfl
          · exact xlk_mem rfl
          · exact xlk_mem rfl
          · exact xlk_mem rfl
          · rw [nI_pred]; exact xlk_mem rfl)
      intro t
      induction t with
      | zero =>
        intro J3 lv0 ht ho hPV hPU hPR hP0 hPQ hlv
        refine aw_lv hlv ?_
        have hP0 : J3 (e + 11) n = nI 0 := hP0.resolve_left (by omega)
        refine sX0_splitBy_106 rfl ?_
        refine sX0_splitBy_108 (fun _ => ?_) (fun hc => absurd nI_0m hc)
        refine sX0_splitBy_134 rfl ?_
        refine jX0_splitBy_135 (by assumption) (by assumption) ?_
        refine sX0_splitBy_138 rfl ?_
        refine sX0_splitBy_140 rfl ?_
        refine nX0_splitBy_141 (by omega) ?_
        refine nX0_splitBy_142 ?_
        refine nX0_splitBy_143 ?_
        refine jX0_splitBy_144 (by assumption) ?_
        refine sX0_splitBy_147 rfl ?_
        refine jX0_splitBy_148 (by assumption) (by assumption) ?_
        refine jX0_splitBy_151 (Nat.le_of_ble_eq_true rfl) (by assumption) ?_
        have hRB : U % V < yB n := Nat.lt_trans (Nat.mod_lt _ hV0) hVB
        refine c_trim (v := v / w) (s := m - n + 1) hQ0 (by omega) ⟨by omega, ?_, by rw [xup2_s], fun i hi => by rw [xup2_r (by omega)]; exact hPQ i (by omega) hi⟩ (fun J4 ho4 hN4 => ?_)
        · refine yh_lt ?_
          rw [← hUV, yh_div, Nat.div_eq_of_lt hUt]
        refine nX0_splitBy_154 ?_
        refine sX0_splitBy_155 ?_
        have hP4 : ∀ i, i ≤ n → J4 (e + 11) i = nI (yg (U % V) i) := by
          intro i hi
          rw [ho4 _ (by omega) (by omega), xup2_r (by omega)]
          by_cases z : i = n
          · subst z; rw [hP0, yg_up (yh_small hRB) (Nat.le_refl _)]
          · have := hPR i (by omega); rw [Nat.zero_add, yh_0] at this; exact this
        have oA : ∀ r, r ≠ e + 9 → r ≠ e + 10 → r ≠ e + 11 → r ≠ e + 12 → J4 r = J r := by
          intro r z1 z2 z3 z4
          rw [ho4 r z1 z2, xup2_r z1, ho r z2 z3 z4]
          exact y0 r z1 z2
        suffices H2 : ∀ u i J5 lv1, i + u = n → (∀ r, r ≠ a + 1 → J5 r = J4 r) → (∀ p, p < i → J5 (a + 1) p = nI (yg (v % w) p)) → (∀ z ∈ ([(0, .ref e), (1, .ref a), (3, .int (nI n)), (5, .int (nI sh)), (6, .int (nI i))] : List (Nat × Value)), z ∈ lv1) → aw g l mX0_splitBy 157 lv1 [] (xJ h J5) Q from H2 n 0 J4 _ (by omega) (fun _ _ => rfl) (fun p hp => absurd hp (by omega)) (fun z hz => by
            simp only [List.mem_cons, List.not_mem_nil, or_false] at hz
            rcases hz with rfl | rfl | rfl | rfl | rfl <;> exact xlk_mem rfl)
        intro u
        induction u with
        | zero =>
          intro i J5 lv1 hi ho5 hP5 hlv1
          refine aw_lv hlv1 ?_
          obtain rfl : i = n := by omega
          refine sX0_splitBy_157 rfl ?_
          refine sX0_splitBy_159 rfl ?_
          refine nX0_splitBy_160 (by omega) (by omega) (fun _ => ?_) (fun hc => absurd hc (by omega))
          refine sX0_splitBy_209 rfl ?_
          refine sX0_splitBy_210 rfl ?_
          refine jX0_splitBy_211 (by assumption) ?_
          refine sX0_splitBy_214 rfl ?_
          refine jX0_splitBy_215 (Nat.le_of_ble_eq_true rfl) (by assumption) ?_
          refine c_trim (v := v % w) (s := i) hA0 (by omega) ⟨by omega, Nat.lt_trans (Nat.mod_lt _ hw0) w2, by rw [xup2_s], fun p hp => by rw [xup2_r (by omega)]; exact hP5 p hp⟩ (fun J6 ho6 hN6 => ?_)
          refine sX0_splitBy_218 ?_
          refine k J6 (fun r z1 z2 z3 z4 z5 z6 => ?_) hN6 ?_
          · rw [ho6 r z1 z2, xup2_r z1, ho5 r z2]; exact oA r z3 z4 z5 z6
          · obtain ⟨s, ⟨n1, n2, n3, n4⟩, nl⟩ := hN4
            refine ⟨s, ⟨n1, n2, ?_, fun p hp => ?_⟩, nl⟩
            · rw [ho6 _ (Ne.symm hae) (by omega), xup2_r (Ne.symm hae), ho5 _ (by omega)]; exact n3
            · rw [ho6 _ (by omega) (by omega), xup2_r (by omega), ho5 _ (by omega)]; exact n4 p hp
        | succ u ih =>
          intro i J5 lv1 hi ho5 hP5 hlv1
          refine aw_lv hlv1 ?_
          have d1 : J5 (e + 11) (i + 1) = nI (yg (U % V) (i + 1)) := by rw [ho5 _ (by omega)]; exact hP4 _ (by omega)
          have d0 : J5 (e + 11) i = nI (yg (U % V) i) := by rw [ho5 _ (by omega)]; exact hP4 _ (by omega)
          have l1 := yg_lt (U % V) (i + 1)
          have l0 := yg_lt (U % V) i
          refine sX0_splitBy_157 rfl ?_
          refine sX0_splitBy_159 rfl ?_
          refine nX0_splitBy_160 (by omega) (by omega) (fun hc => absurd hc (by omega)) (fun _ => ?_)
          refine sX0_splitBy_163 rfl ?_
          refine jX0_splitBy_164 (by assumption) (by assumption) ?_
          refine sX0_splitBy_167 rfl ?_
          refine nX0_splitBy_169 ?_
          refine nX0_splitBy_170 ?_
          refine jX0_splitBy_171 (by assumption) (by omega) (by omega) ?_
          rw [d1]
          refine sX0_splitBy_172 ?_
          refine nX0_splitBy_173 ?_
          refine sX0_splitBy_175 ?_
          rw [nI_l (by omega), lN_shl30]
          refine sX0_splitBy_176 rfl ?_
          refine jX0_splitBy_177 (by assumption) (by assumption) ?_
          refine sX0_splitBy_180 rfl ?_
          refine jX0_splitBy_182 (by assumption) (by omega) (by omega) ?_
          rw [d0]
          refine sX0_splitBy_183 ?_
          refine sX0_splitBy_184 ?_
          rw [nI_l (by omega), lN_add]
          refine sX0_splitBy_185 ?_
          refine sX0_splitBy_187 rfl ?_
          refine jX0_splitBy_188 (by assumption) (by assumption) ?_
          refine sX0_splitBy_191 rfl ?_
          refine sX0_splitBy_193 rfl ?_
          refine sX0_splitBy_195 rfl ?_
          refine sX0_splitBy_197 ?_
          rw [lN_shrS (by omega) (by omega)]
          refine sX0_splitBy_198 ?_
          rw [lN_i]
          refine sX0_splitBy_199 ?_
          refine sX0_splitBy_201 ?_
          rw [nI_mask', ← hF, un_shift hFG hF0, hUVm, Nat.mul_div_cancel _ hF0]
          refine jX0_splitBy_202 (by assumption) (by omega) (by omega) ?_
          refine nX0_splitBy_203 rfl ?_
          refine sX0_splitBy_206 ?_
          refine ih (i + 1) _ _ (by omega) (fun r hr => by rw [xup2_r hr]; exact ho5 r hr) (fun p hp => ?_) (fun z hz => by
            simp only [List.mem_cons, List.not_mem_nil, or_false] at hz
            rcases hz with rfl | rfl | rfl | rfl | rfl <;> exact xlk_mem rfl)
          by_cases z : p = i
          · subst z; rw [xup2_s]
          · rw [xup2_n z]; exact hP5 p (by omega)
      | succ t ih =>
        intro J3 lv0 ht ho hPV hPU hPR hP0 hPQ hlv
        refine aw_lv hlv ?_
        rw [nI_pred]
        refine sX0_splitBy_106 rfl ?_
        refine nX0_splitBy_108 (by omega) ?_
        obtain ⟨W, hW⟩ : ∃ W, W = yh U (t + 1) % V * 1073741824 + yg U t := ⟨_, rfl⟩
        have gU := yg_lt U t
        have hWV : W < V * 1073741824 := by
          have z1 : (yh U (t + 1) % V + 1) * 1073741824 ≤ V * 1073741824 := Nat.mul_le_mul_right _ (Nat.mod_lt _ hV0)
          omega
        have eU := yh_eq U t
        have eD := Nat.div_add_mod (yh U (t + 1)) V
        have hWU : yh U t = V * (yh U (t + 1) / V * 1073741824) + W := by
          rw [hW, eU, ← Nat.mul_assoc, ← Nat.add_assoc, ← Nat.add_mul, eD, Nat.mul_comm]
        have hWm : W % V = yh U t % V := by rw [hWU, Nat.mul_add_mod]
        have hWd : W / V = yg (v / w) t := by
          unfold yg
          rw [← hUV, yh_div, hWU, Nat.mul_add_div hV0, Nat.add_comm, Nat.add_mul_mod_self_right]
          exact (Nat.mod_eq_of_lt ((Nat.div_lt_iff_lt_mul hV0).mpr (by rw [Nat.mul_comm]; exact hWV))).symm
        have hW0 : yg W 0 = yg U t := by
          show yh W 0 % 1073741824 = _
          rw [yh_0, hW]; omega
        have hWs : ∀ i, yg W (i + 1) = yg (yh U (t + 1) % V) i := by
          intro i
          unfold yg
          congr 1
          unfold yh
          rw [Nat.add_comm i 1, yB_add, ← Nat.div_div_eq_div_mul]
          congr 1
          rw [show yB 1 = 1073741824 from rfl, hW]
          show (yh U (t + 1) % V * 1073741824 + yg U t) / 1073741824 = yh U (t + 1) % V
          omega
        refine sX0_splitBy_111 rfl ?_
        refine jX0_splitBy_112 (by assumption) (by assumption) ?_
        refine jX0_splitBy_115 (by assumption) (by assumption) ?_
        refine sX0_splitBy_118 rfl ?_
        refine sX0_splitBy_120 rfl ?_
        refine sX0_splitBy_121 rfl ?_
        refine sX0_splitBy_123 rfl ?_
        refine jX0_splitBy_124 (Nat.le_of_ble_eq_true rfl) t1 ?_
        refine c_takeOff (W := W) (V := V) hB0 (by omega) (by omega) (fun i hi => ?_) hPV hVB hVt hWV (fun J4 ho4 ho5 hP4 => ?_)
        · rcases i with _ | i
          · rw [hW0]; exact hPU t (by omega)
          · rw [hWs, show t + (i + 1) = t + 1 + i by omega]; exact hPR i (by omega)
        show aw g l mX0_splitBy 127 _ (.int (nI (W / V)) :: _) (xJ h J4) Q
        rw [hWd]
        rw [hWm] at hP4
        refine jX0_splitBy_127 (by assumption) (by omega) (by omega) ?_
        refine sX0_splitBy_128 rfl ?_
        refine sX0_splitBy_131 ?_
        rw [nI_m1]
        have hRB : yh U t % V < yB n := Nat.lt_trans (Nat.mod_lt _ hV0) hVB
        refine ih _ _ (by omega) (fun r z1 z2 z3 => by rw [xup2_r z1, ho4 r z2]; exact ho r z1 z2 z3) (fun i hi => by rw [xup2_r (by omega), ho4 _ (by omega)]; exact hPV i hi) (fun i hi => by rw [xup2_r (by omega), ho5 i (by omega)]; exact hPU i (by omega)) (fun i hi => by rw [xup2_r (by omega)]; exact hP4 i (by omega)) ?_ (fun i z1 z2 => ?_) (fun z hz => by
          simp only [List.mem_cons, List.not_mem_nil, or_false] at hz
          rcases hz with rfl | rfl | rfl | rfl | rfl | rfl | rfl <;> exact xlk_mem rfl)
        · rcases Nat.eq_zero_or_pos t with z | z
          · refine Or.inr ?_
            subst z
            have := hP4 n (Nat.le_refl _)
            rw [Nat.zero_add, yg_up (yh_small hRB) (Nat.le_refl _)] at this
            rw [xup2_r (by omega)]; exact this
          · exact Or.inl z
        · by_cases z : i = t
          · subst z; rw [xup2_s]
          · rw [xup2_n z, ho4 _ (by omega)]; exact hPQ i (by omega) z2
    · -- one digit
      obtain rfl : n = 1 := hn1
      rw [hB30] at w2
      have ew : yg w 0 = w := by rw [yg_small w2, if_pos rfl]
      refine sX0_splitBy_37 rfl ?_
      refine jX0_splitBy_38 (by assumption) (by assumption) ?_
      refine sX0_splitBy_41 rfl ?_
      refine jX0_splitBy_42 (Nat.le_of_ble_eq_true rfl) (by assumption) ?_
      have hv128 : v < yB 128 := Nat.lt_of_lt_of_le v2 (yB_le (by omega))
      refine c_copy5 hQ0 hA0 (by omega) (by omega) hae ⟨m, hvR0, hvl⟩ hv128 (fun J1 ho1 hN1 => ?_)
      have hwR1 := NR_o hQ0 hD0 hbe ho1 hwR0
      refine sX0_splitBy_45 rfl ?_
      refine sX0_splitBy_46 rfl ?_
      refine jX0_splitBy_47 (by assumption) (by assumption) ?_
      refine sX0_splitBy_50 rfl ?_
      refine jX0_splitBy_51 (by assumption) (by assumption) ?_
      refine nX0_splitBy_54 ?_
      refine jX0_splitBy_55 (by assumption) (by omega) (by omega) ?_
      rw [hwR1.2.2.2 0 (by omega), ew]
      refine jX0_splitBy_56 (Nat.le_of_ble_eq_true rfl) (by assumption) ?_
      refine c_divideSmall5 hQ0 (by omega) hw0 (by omega) hN1 (fun J2 ho2 hN2 => ?_)
      show aw g l mX0_splitBy 59 _ (.int (nI (v % w)) :: _) (xJ h J2) Q
      refine jX0_splitBy_59 (Nat.le_of_ble_eq_true rfl) (by assumption) ?_
      have hmw := Nat.mod_lt v hw0
      refine c_setSmall5 hA0 (by omega) (by omega) (by omega) (fun J3 ho3 hN3 => ?_)
      refine sX0_splitBy_62 ?_
      refine k J3 (fun r z1 z2 z3 z4 z5 z6 => ?_) hN3 (NJ_o hA0 hQ0 (Ne.symm hae) ho3 hN2)
      rw [ho3 r z1 z2, ho2 r z3 z4, ho1 r z3 z4]
      exact y0 r z3 z4
  have less : v < w → Q none (xJ h J0) := by
    intro hlt
    refine k J0 (fun r z1 z2 z3 z4 z5 z6 => y0 r z3 z4) ⟨m, by rw [Nat.mod_eq_of_lt hlt]; exact hvR0, by rw [Nat.mod_eq_of_lt hlt]; exact hvl⟩ ?_
    rw [Nat.div_eq_of_lt hlt]
    exact ⟨0, ⟨by omega, by decide, sz0, fun i hi => absurd hi (by omega)⟩, by decide, Or.inl rfl⟩
  refine c_compare5 hA0 hD0 (by omega) (by omega) ⟨m, hvR0, hvl⟩ ⟨n, hwR0, hwl⟩ (fun hlt => ?_) (fun heq => ?_) (fun hgt => ?_)
  · refine sX0_splitBy_28 (fun hc => absurd hc (by decide)) (fun _ => ?_)
    exact sX0_splitBy_31 (less hlt)
  · refine sX0_splitBy_28 (fun _ => ?_) (fun hc => absurd (by decide) hc)
    exact more (by omega)
  · refine sX0_splitBy_28 (fun _ => ?_) (fun hc => absurd (by decide) hc)
    exact more (by omega)
end Split
