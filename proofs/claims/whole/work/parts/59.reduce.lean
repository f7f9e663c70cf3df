def eS : Nat → Nat → Nat → Prop
  | 0, _, y => y = 0
  | n + 1, x, y => y = 0 ∨ eS n y (x % y)
theorem eS_0 : ∀ n x, eS n x 0
  | 0, _ => rfl
  | _ + 1, _ => Or.inl rfl
theorem eS_pow : ∀ k x y, y ≤ x → x < 2 ^ k → eS (2 * k) x y
  | 0, x, y, h1, h2 => by
    have : y = 0 := by rw [Nat.pow_zero] at h2; omega
    exact this
  | k + 1, x, y, h1, h2 => by
    show eS (2 * k + 1 + 1) x y
    rcases Nat.eq_zero_or_pos y with e | e
    · exact Or.inl e
    refine Or.inr ?_
    have r1 := Nat.mod_lt x e
    have r2 : 2 * (x % y) ≤ x := by
      have z1 := Nat.div_add_mod x y
      have z2 : 0 < x / y := Nat.div_pos h1 e
      have z3 : y * 1 ≤ y * (x / y) := Nat.mul_le_mul_left _ z2
      omega
    rcases Nat.eq_zero_or_pos (x % y) with e2 | e2
    · exact Or.inl e2
    refine Or.inr (eS_pow k _ _ (Nat.le_of_lt (Nat.mod_lt _ e2)) ?_)
    rw [Nat.pow_succ] at h2
    omega
theorem eS_all {k x y : Nat} (hx : x < 2 ^ k) (hy : y < 2 ^ k) : eS (2 * k + 1) x y := by
  rcases Nat.eq_zero_or_pos y with e | e
  · exact Or.inl e
  · exact Or.inr (eS_pow k _ _ (Nat.le_of_lt (Nat.mod_lt _ e)) hy)
theorem gcd_step (x y : Nat) : Nat.gcd y (x % y) = Nat.gcd x y := by
  rw [Nat.gcd_comm x y, Nat.gcd_rec y x, Nat.gcd_comm]
section Reduce
variable {g : xG} {l : Launch} {h : xH} {J : Nat → Nat → Int32} {Q : Option Value → xH → Prop}
theorem NJ_c {J J' : Nat → Nat → Int32} {a c v : Nat} (h1 : J' a = J a) (h2 : J' (a + 1) = J (a + 1)) (hN : NJ J a c v) : NJ J' a c v := by
  obtain ⟨s, ⟨n1, n2, n3, n4⟩, nl⟩ := hN
  exact ⟨s, ⟨n1, n2, by rw [h1]; exact n3, fun i hi => by rw [h2]; exact n4 i hi⟩, nl⟩
theorem NJ_v {J : Nat → Nat → Int32} {a c v w : Nat} (hN : NJ J a c v) (e : v = w) : NJ J a c w := e ▸ hN
theorem NJ_size {J : Nat → Nat → Int32} {a c v : Nat} (hN : NJ J a c v) : ∃ s, s ≤ c ∧ J a 1 = nI s ∧ (s = 0 ↔ v = 0) := by
  obtain ⟨s, ⟨n1, n2, n3, n4⟩, nl⟩ := hN
  refine ⟨s, n1, n3, fun e => ?_, fun e => ?_⟩
  · subst e; rw [show yB 0 = 1 from rfl] at n2; omega
  · subst e; exact yl_0 nl
theorem c_reduceB {e t d : Nat} (hB : CB h e) (ht : NJ J (e + 1) 128 t) (hd : NJ J (e + 3) 128 d) (hd0 : 0 < d) (k : ∀ J', (∀ r, r ≤ e ∨ e + 13 ≤ r → J' r = J r) → NJ J' (e + 1) 128 (if t = 0 then 0 else t / Nat.gcd t d) → NJ J' (e + 3) 128 (if t = 0 then 1 else d / Nat.gcd t d) → Q none (xJ h J')) : ac g l mX0_reduce [.ref e] (xJ h J) Q := by
  refine ac_of (by decide) (Nat.le_of_ble_eq_true rfl) ?_
  have hB0 := hB
  obtain ⟨t1, ⟨p1, p2, p4, p5, p6, p7, p8⟩, ⟨c1, c2, c3, c4, c5⟩, t11, t12⟩ := hB
  have d1 := c1; have d2 := c2; have d3 := c3; have d4 := c4; have d5 := c5
  obtain ⟨a1, a2, a3⟩ := c1
  obtain ⟨b1, b2, b3⟩ := c2
  obtain ⟨l1, l2, l3⟩ := c3
  obtain ⟨r1, r2, r3⟩ := c4
  obtain ⟨s, s1, s2, s3⟩ := NJ_size ht
  refine sX0_reduce_0 rfl ?_
  refine jX0_reduce_1 (by assumption) (by assumption) ?_
  refine jX0_reduce_4 (by assumption) ?_
  rw [s2]
  refine nX0_reduce_7 (by omega) (fun hs => ?_) (fun hs => ?_)
  rotate_left
  · have z : t = 0 := s3.mp hs
    subst z
    refine sX0_reduce_10 rfl ?_
    refine jX0_reduce_11 (by assumption) (by assumption) ?_
    refine nX0_reduce_14 ?_
    refine jX0_reduce_15 (Nat.le_of_ble_eq_true rfl) (by assumption) ?_
    refine c_setSmall5 d2 (by omega) (by omega) (by omega) (fun J1 ho1 hN1 => ?_)
    refine sX0_reduce_18 rfl ?_
    refine jX0_reduce_19 (by assumption) (by assumption) ?_
    refine jX0_reduce_22 (Nat.le_of_ble_eq_true rfl) (by assumption) ?_
    refine c_isOne5 d2 (by omega) hN1 (fun _ => ?_) (fun hc => absurd rfl hc)
    refine sX0_reduce_25 (fun hc => absurd hc (by decide)) (fun _ => ?_)
    refine sX0_reduce_28 (k J1 (fun r hr => ho1 r (by omega) (by omega)) ?_ ?_)
    · rw [if_pos rfl]; exact NJ_o d2 d1 (by omega) ho1 ht
    · rw [if_pos rfl]; exact hN1
  have ht0 : t ≠ 0 := fun z => hs (s3.mpr z)
  rw [if_neg ht0, if_neg ht0] at k
  refine sX0_reduce_18 rfl ?_
  refine jX0_reduce_19 (by assumption) (by assumption) ?_
  refine jX0_reduce_22 (Nat.le_of_ble_eq_true rfl) (by assumption) ?_
  refine c_isOne5 d2 (by omega) hd (fun hone => ?_) (fun hone => ?_)
  · refine sX0_reduce_25 (fun hc => absurd hc (by decide)) (fun _ => ?_)
    subst hone
    refine sX0_reduce_28 (k J (fun r hr => rfl) ?_ ?_)
    · rw [Nat.gcd_one_right, Nat.div_one]; exact ht
    · rw [Nat.gcd_one_right]; exact hd
  refine sX0_reduce_25 (fun _ => ?_) (fun hc => absurd rfl hc)
  refine sX0_reduce_29 rfl ?_
  refine jX0_reduce_30 (by assumption) (by assumption) ?_
  refine sX0_reduce_33 rfl ?_
  refine jX0_reduce_34 (by assumption) (by assumption) ?_
  refine jX0_reduce_37 (Nat.le_of_ble_eq_true rfl) (by assumption) ?_
  refine c_copy5 d3 d1 (by omega) (by omega) (by omega) ht (NJ_lt ht) (fun J1 ho1 hN1 => ?_)
  have ht1 := NJ_o d3 d1 (by omega) ho1 ht
  have hd1 := NJ_o d3 d2 (by omega) ho1 hd
  refine sX0_reduce_40 rfl ?_
  refine jX0_reduce_41 (by assumption) (by assumption) ?_
  refine sX0_reduce_44 rfl ?_
  refine jX0_reduce_45 (by assumption) (by assumption) ?_
  refine jX0_reduce_48 (Nat.le_of_ble_eq_true rfl) (by assumption) ?_
  refine c_copy5 d4 d2 (by omega) (by omega) (by omega) hd1 (NJ_lt hd1) (fun J2 ho2 hN2 => ?_)
  have ht2 := NJ_o d4 d1 (by omega) ho2 ht1
  have hd2 := NJ_o d4 d2 (by omega) ho2 hd1
  have hl2 := NJ_o d4 d3 (by omega) ho2 hN1
  have of2 : ∀ r, r ≤ e ∨ e + 13 ≤ r → J2 r = J r := fun r hr => by rw [ho2 r (by omega) (by omega), ho1 r (by omega) (by omega)]
  refine sX0_reduce_51 rfl ?_
  refine jX0_reduce_52 (by assumption) (by assumption) ?_
  refine sX0_reduce_55 ?_
  refine sX0_reduce_56 rfl ?_
  refine jX0_reduce_57 (by assumption) (by assumption) ?_
  refine sX0_reduce_60 ?_
  refine nX0_reduce_61 ?_
  refine sX0_reduce_62 ?_
  have hG0 : 0 < Nat.gcd t d := Nat.gcd_pos_of_pos_right _ hd0
  have behind : ∀ A J3 lv0, (A = e + 5 ∨ A = e + 7) → (∀ r, r ≤ e ∨ e + 13 ≤ r → J3 r = J r) → NJ J3 (e + 1) 128 t → NJ J3 (e + 3) 128 d → NJ J3 A 128 (Nat.gcd t d) → (∀ z ∈ ([(0, .ref e), (1, .ref A)] : List (Nat × Value)), z ∈ lv0) → aw g l mX0_reduce 97 lv0 [] (xJ h J3) Q := by
    intro A J3 lv0 hA ho3 ht3 hd3 hG3 hlv
    refine aw_lv hlv ?_
    have dA : CN h A 128 := by rcases hA with rfl | rfl; exact d3; exact d4
    have tA := dA.1
    refine sX0_reduce_97 rfl ?_
    refine jX0_reduce_98 (Nat.le_of_ble_eq_true rfl) (by assumption) ?_
    refine c_isOne5 dA (by omega) hG3 (fun hone => ?_) (fun hone => ?_)
    · refine sX0_reduce_101 (fun _ => ?_) (fun hc => absurd hc (by decide))
      refine sX0_reduce_144 (k J3 ho3 ?_ ?_)
      · rw [hone, Nat.div_one]; exact ht3
      · rw [hone, Nat.div_one]; exact hd3
    refine sX0_reduce_101 (fun hc => absurd rfl hc) (fun _ => ?_)
    refine sX0_reduce_104 rfl ?_
    refine sX0_reduce_105 rfl ?_
    refine jX0_reduce_106 (by assumption) (by assumption) ?_
    refine sX0_reduce_109 rfl ?_
    refine jX0_reduce_110 (Nat.le_of_ble_eq_true rfl) (by assumption) ?_
    refine c_splitBy hB0 d1 dA (by omega) (by omega) (by omega) (by omega) (by omega) ht3 hG3 hG0 (fun J4 ho4 hr4 hq4 => ?_)
    have hd4 := NJ_c (ho4 _ (by omega) (by omega) (by omega) (by omega) (by omega) (by omega)) (ho4 _ (by omega) (by omega) (by omega) (by omega) (by omega) (by omega)) hd3
    have hG4 := NJ_c (ho4 A (by omega) (by omega) (by omega) (by omega) (by omega) (by omega)) (ho4 (A + 1) (by omega) (by omega) (by omega) (by omega) (by omega) (by omega)) hG3
    refine sX0_reduce_113 rfl ?_
    refine jX0_reduce_114 (by assumption) (by assumption) ?_
    refine sX0_reduce_117 rfl ?_
    refine jX0_reduce_118 (by assumption) (by assumption) ?_
    refine jX0_reduce_121 (Nat.le_of_ble_eq_true rfl) (by assumption) ?_
    refine c_copy5 d1 d5 (by omega) (by omega) (by omega) hq4 (NJ_lt hq4) (fun J5 ho5 hN5 => ?_)
    have hd5 := NJ_o d1 d2 (by omega) ho5 hd4
    have hG5 := NJ_o d1 dA (by omega) ho5 hG4
    refine sX0_reduce_124 rfl ?_
    refine sX0_reduce_125 rfl ?_
    refine jX0_reduce_126 (by assumption) (by assumption) ?_
    refine sX0_reduce_129 rfl ?_
    refine jX0_reduce_130 (Nat.le_of_ble_eq_true rfl) (by assumption) ?_
    refine c_splitBy hB0 d2 dA (by omega) (by omega) (by omega) (by omega) (by omega) hd5 hG5 hG0 (fun J6 ho6 hr6 hq6 => ?_)
    have ht6 := NJ_c (ho6 _ (by omega) (by omega) (by omega) (by omega) (by omega) (by omega)) (ho6 _ (by omega) (by omega) (by omega) (by omega) (by omega) (by omega)) hN5
    refine sX0_reduce_133 rfl ?_
    refine jX0_reduce_134 (by assumption) (by assumption) ?_
    refine sX0_reduce_137 rfl ?_
    refine jX0_reduce_138 (by assumption) (by assumption) ?_
    refine jX0_reduce_141 (Nat.le_of_ble_eq_true rfl) (by assumption) ?_
    refine c_copy5 d2 d5 (by omega) (by omega) (by omega) hq6 (NJ_lt hq6) (fun J7 ho7 hN7 => ?_)
    refine sX0_reduce_144 (k J7 (fun r hr => ?_) (NJ_o d2 d1 (by omega) ho7 ht6) hN7)
    rw [ho7 r (by omega) (by omega), ho6 r (by omega) (by omega) (by omega) (by omega) (by omega) (by omega), ho5 r (by omega) (by omega), ho4 r (by omega) (by omega) (by omega) (by omega) (by omega) (by omega)]
    exact ho3 r hr
  have h3840 : ∀ {v : Nat}, v < yB 128 → v < 2 ^ 3840 := fun hv => by rw [yB_two] at hv; exact hv
  suffices H : ∀ n rd x y A O J3 lv0, eS n x y → rd + n ≤ 10000 → Nat.gcd x y = Nat.gcd t d → (A = e + 5 ∧ O = e + 7 ∨ A = e + 7 ∧ O = e + 5) → (∀ r, r ≤ e ∨ e + 13 ≤ r → J3 r = J r) → NJ J3 (e + 1) 128 t → NJ J3 (e + 3) 128 d → NJ J3 A 128 x → NJ J3 O 128 y → (∀ z ∈ ([(0, .ref e), (1, .ref A), (2, .ref O), (3, .int (nI rd))] : List (Nat × Value)), z ∈ lv0) → aw g l mX0_reduce 63 lv0 [] (xJ h J3) Q from H 7681 0 t d (e + 5) (e + 7) J2 _ (eS_all (k := 3840) (h3840 (NJ_lt ht)) (h3840 (NJ_lt hd))) (by omega) rfl (Or.inl ⟨rfl, rfl⟩) of2 ht2 hd2 hl2 hN2 (fun z hz => by
      simp only [List.mem_cons, List.not_mem_nil, or_false] at hz
      rcases hz with rfl | rfl | rfl | rfl <;> exact xlk_mem rfl)
  intro n
  induction n with
  | zero =>
    intro rd x y A O J3 lv0 hS hrd hg hAO ho3 ht3 hd3 hx3 hy3 hlv
    refine aw_lv hlv ?_
    have hy0 : y = 0 := hS
    subst hy0
    rw [Nat.gcd_zero_right] at hg
    subst hg
    have tO : (xT h O).1 = 5 := by rcases hAO with ⟨rfl, rfl⟩ | ⟨rfl, rfl⟩; exact r1; exact l1
    obtain ⟨so, so1, so2, so3⟩ := NJ_size hy3
    have so0 := so3.mpr rfl
    subst so0
    refine sX0_reduce_63 rfl ?_
    refine nX0_reduce_64 ?_
    have fin := behind A J3 [(0, .ref e), (1, .ref A), (2, .ref O), (3, .int (nI rd))] (by omega) ho3 ht3 hd3 hx3 (fun z hz => by
      simp only [List.mem_cons, List.not_mem_nil, or_false] at hz
      rcases hz with rfl | rfl <;> exact xlk_mem rfl)
    refine nX0_reduce_67 (by omega) (by omega) (fun _ => fin) (fun _ => ?_)
    refine sX0_reduce_70 rfl ?_
    refine jX0_reduce_71 (by assumption) ?_
    rw [so2]
    exact nX0_reduce_74 (by omega) (fun _ => fin) (fun hc => absurd hc (by omega))
  | succ n ih =>
    intro rd x y A O J3 lv0 hS hrd hg hAO ho3 ht3 hd3 hx3 hy3 hlv
    refine aw_lv hlv ?_
    have tO : (xT h O).1 = 5 := by rcases hAO with ⟨rfl, rfl⟩ | ⟨rfl, rfl⟩; exact r1; exact l1
    have dA : CN h A 128 := by rcases hAO with ⟨rfl, rfl⟩ | ⟨rfl, rfl⟩; exact d3; exact d4
    have dO : CN h O 128 := by rcases hAO with ⟨rfl, rfl⟩ | ⟨rfl, rfl⟩; exact d4; exact d3
    obtain ⟨so, so1, so2, so3⟩ := NJ_size hy3
    refine sX0_reduce_63 rfl ?_
    refine nX0_reduce_64 ?_
    refine nX0_reduce_67 (by omega) (by omega) (fun hc => absurd hc (by omega)) (fun _ => ?_)
    refine sX0_reduce_70 rfl ?_
    refine jX0_reduce_71 (by assumption) ?_
    rw [so2]
    refine nX0_reduce_74 (by omega) (fun hz => ?_) (fun hz => ?_)
    · have hy0 : y = 0 := so3.mp (by omega)
      subst hy0
      rw [Nat.gcd_zero_right] at hg
      subst hg
      exact behind A J3 _ (by omega) ho3 ht3 hd3 hx3 (fun z hz => by
        simp only [List.mem_cons, List.not_mem_nil, or_false] at hz
        rcases hz with rfl | rfl <;> exact xlk_mem rfl)
    · have hy0 : 0 < y := by
        rcases Nat.eq_zero_or_pos y with z | z
        · exact absurd (so3.mpr z) (by omega)
        · exact z
      have hS' : eS n y (x % y) := hS.resolve_left (by omega)
      refine sX0_reduce_77 rfl ?_
      refine sX0_reduce_78 rfl ?_
      refine sX0_reduce_79 rfl ?_
      refine jX0_reduce_80 (Nat.le_of_ble_eq_true rfl) (by assumption) ?_
      refine c_splitBy hB0 dA dO (by omega) (by omega) (by omega) (by omega) (by omega) hx3 hy3 hy0 (fun J4 ho4 hr4 hq4 => ?_)
      refine sX0_reduce_83 rfl ?_
      refine sX0_reduce_84 ?_
      refine sX0_reduce_86 rfl ?_
      refine sX0_reduce_87 ?_
      refine sX0_reduce_88 rfl ?_
      refine sX0_reduce_90 ?_
      refine nX0_reduce_91 rfl ?_
      refine sX0_reduce_94 ?_
      refine ih (rd + 1) y (x % y) O A J4 _ hS' (by omega) (by rw [gcd_step]; exact hg) (by omega) (fun r hr => ?_) (NJ_c (ho4 _ (by omega) (by omega) (by omega) (by omega) (by omega) (by omega)) (ho4 _ (by omega) (by omega) (by omega) (by omega) (by omega) (by omega)) ht3) (NJ_c (ho4 _ (by omega) (by omega) (by omega) (by omega) (by omega) (by omega)) (ho4 _ (by omega) (by omega) (by omega) (by omega) (by omega) (by omega)) hd3) (NJ_c (ho4 _ (by omega) (by omega) (by omega) (by omega) (by omega) (by omega)) (ho4 _ (by omega) (by omega) (by omega) (by omega) (by omega) (by omega)) hy3) hr4 (fun z hz => by
        simp only [List.mem_cons, List.not_mem_nil, or_false] at hz
        rcases hz with rfl | rfl | rfl | rfl <;> exact xlk_mem rfl)
      rw [ho4 r (by omega) (by omega) (by omega) (by omega) (by omega) (by omega)]
      exact ho3 r hr
end Reduce
