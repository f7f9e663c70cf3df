theorem vFin_1 {B : Nat} {z : Vl} (h : vBig B z) : vFin B z = (9, z) := cIf_t h
theorem vFin_0 {B : Nat} {z : Vl} (h : ¬ vBig B z) : vFin B z = (0, z) := cIf_f h
theorem sg_pow0 {x : Int32} {m : Nat} (hx : x = 0) (hm : m ≠ 0) : (if m = 0 then 1 else if m % 2 = 0 then x * x else x) = (0 : Int32) := by
  rw [if_neg hm, hx]
  by_cases e : m % 2 = 0
  · rw [if_pos e]; rfl
  · rw [if_neg e]
theorem sg_pow1 {x : Int32} {m : Nat} (hx : x = -1 ∨ x = 0 ∨ x = 1) : (if m = 0 then 1 else if m % 2 = 0 then x * x else x) = (-1 : Int32) ∨ (if m = 0 then 1 else if m % 2 = 0 then x * x else x) = (0 : Int32) ∨ (if m = 0 then 1 else if m % 2 = 0 then x * x else x) = (1 : Int32) := by
  by_cases e0 : m = 0
  · rw [if_pos e0]; exact Or.inr (Or.inr rfl)
  rw [if_neg e0]
  by_cases e : m % 2 = 0
  · rw [if_pos e]; rcases hx with rfl | rfl | rfl <;> decide
  · rw [if_neg e]; exact hx
theorem sg_pow2 {x : Int32} {m : Nat} (hx : x = -1 ∨ x = 0 ∨ x = 1) (hx0 : x ≠ 0) : (if m = 0 then 1 else if m % 2 = 0 then x * x else x) ≠ (0 : Int32) := by
  by_cases e0 : m = 0
  · rw [if_pos e0]; decide
  rw [if_neg e0]
  by_cases e : m % 2 = 0
  · rw [if_pos e]; rcases hx with rfl | rfl | rfl
    · decide
    · exact absurd rfl hx0
    · decide
  · rw [if_neg e]; exact hx0
/-- a row of powers that stopped early -/
theorem pow_red {B T D m i j : Nat} {s : Int32} {p : Nat → Int32} (hB : 0 < B) (hg : Nat.gcd T D = 1) (hD0 : 0 < D) (hi : i ≤ m) (hj : j ≤ m) (h1 : i = m ∨ 2 ^ B ≤ T ^ i) (h2 : j = m ∨ 2 ^ B ≤ D ^ j) (hs : T = 0 → m ≠ 0 → s = 0) : (vFin B (vRed (s, T ^ i, D ^ j, p))).1 = (vFin B (s, T ^ m, D ^ m, p)).1 ∧ ((vFin B (vRed (s, T ^ i, D ^ j, p))).1 = 0 → (vFin B (vRed (s, T ^ i, D ^ j, p))).2 = (vFin B (s, T ^ m, D ^ m, p)).2) := by
  have hp2 : 1 < 2 ^ B := Nat.one_lt_two_pow (by omega)
  have hc : Nat.gcd (T ^ i) (D ^ j) = 1 := Nat.Coprime.pow i j hg
  have eR : vRed (s, T ^ i, D ^ j, p) = (s, T ^ i, D ^ j, p) := by
    by_cases z : T ^ i = 0
    · have hT : T = 0 := Nat.eq_zero_of_not_pos (fun q => absurd z (by have := Nat.pow_pos (n := i) q; omega))
      have hi0 : i ≠ 0 := fun q => by rw [q, Nat.pow_zero] at z; omega
      have hs0 := hs hT (by omega)
      subst hT
      have hD1 : D = 1 := by rw [Nat.gcd_zero_left] at hg; exact hg
      subst hD1
      unfold vRed
      rw [if_pos z, z, Nat.one_pow, hs0]
    · unfold vRed
      rw [if_neg z]
      show (s, T ^ i / Nat.gcd (T ^ i) (D ^ j), D ^ j / Nat.gcd (T ^ i) (D ^ j), p) = _
      rw [hc, Nat.div_one, Nat.div_one]
  rw [eR]
  have bg : vBig B (s, T ^ i, D ^ j, p) ↔ vBig B (s, T ^ m, D ^ m, p) := by
    constructor
    · intro z
      rcases z with z | z
      · exact Or.inl (zpow_big z hi hB)
      · exact Or.inr (zpow_big z hj hB)
    · intro z
      rcases z with z | z
      · rcases h1 with q | q
        · left; show 2 ^ B ≤ T ^ i; rw [q]; exact z
        · exact Or.inl q
      · rcases h2 with q | q
        · right; show 2 ^ B ≤ D ^ j; rw [q]; exact z
        · exact Or.inr q
  by_cases hb : vBig B (s, T ^ i, D ^ j, p)
  · rw [vFin_1 hb, vFin_1 (bg.mp hb)]
    exact ⟨rfl, fun z => absurd z (show (9 : Nat) ≠ 0 by decide)⟩
  · rw [vFin_0 hb, vFin_0 (fun z => hb (bg.mpr z))]
    refine ⟨rfl, fun _ => ?_⟩
    have q1 : i = m := h1.resolve_right (fun z => hb (Or.inl z))
    have q2 : j = m := h2.resolve_right (fun z => hb (Or.inr z))
    rw [q1, q2]
theorem vWf_fin {B : Nat} {s : Int32} {t d : Nat} {p : Nat → Int32} (hB2 : B ≤ 512) (h1 : s = 0 ↔ t = 0) (h2 : 0 < d) (h3 : s = -1 ∨ s = 0 ∨ s = 1) (h4 : pOk p) (h0 : (vFin B (vRed (s, t, d, p))).1 = 0) : vWf (vFin B (vRed (s, t, d, p))).2 := by
  by_cases hb : vBig B (vRed (s, t, d, p))
  · rw [vFin_1 hb] at h0; exact absurd h0 (show (9 : Nat) ≠ 0 by decide)
  rw [vFin_0 hb]
  show vWf (vRed (s, t, d, p))
  have lb : 2 ^ B ≤ 2 ^ 512 := Nat.pow_le_pow_right (by decide) hB2
  have b1 : (vRed (s, t, d, p)).2.1 < 2 ^ 512 := Nat.lt_of_lt_of_le (Nat.not_le.mp (fun z => hb (Or.inl z))) lb
  have b2 : (vRed (s, t, d, p)).2.2.1 < 2 ^ 512 := Nat.lt_of_lt_of_le (Nat.not_le.mp (fun z => hb (Or.inr z))) lb
  have e := vRed_eq (s := s) (t := t) (d := d) (p := p) h1.mpr
  rw [e] at b1 b2 ⊢
  by_cases z : t = 0
  · rw [if_pos z] at b1 b2 ⊢
    rw [if_pos z] at b2 ⊢
    exact ⟨show (0 : Nat) < 1 by decide, b1, b2, ⟨fun _ => rfl, fun _ => h1.mpr z⟩, h3, show Nat.gcd 0 1 = 1 by decide, h4⟩
  · rw [if_neg z] at b1 b2 ⊢
    rw [if_neg z] at b2 ⊢
    have hg : 0 < Nat.gcd t d := Nat.gcd_pos_of_pos_right _ h2
    have q1 : 0 < t / Nat.gcd t d := Nat.div_pos (Nat.le_of_dvd (by omega) (Nat.gcd_dvd_left _ _)) hg
    have q2 : 0 < d / Nat.gcd t d := Nat.div_pos (Nat.le_of_dvd h2 (Nat.gcd_dvd_right _ _)) hg
    refine ⟨q2, b1, b2, ⟨fun y => absurd (h1.mp y) z, fun y => absurd y (by show ¬ t / Nat.gcd t d = 0; omega)⟩, h3, ?_, h4⟩
    show Nat.gcd (t / Nat.gcd t d) (d / Nat.gcd t d) = 1
    rw [Nat.gcd_div (Nat.gcd_dvd_left _ _) (Nat.gcd_dvd_right _ _), Nat.div_self hg]
theorem vWf_mul {B : Nat} {x y : Vl} (hB2 : B ≤ 512) (wx : vWf x) (wy : vWf y) (h0 : (vMul B x y).1 = 0) : vWf (vMul B x y).2 := by
  unfold vMul at h0 ⊢
  by_cases z : pOk (fun k => x.2.2.2 k + y.2.2.2 k)
  · rw [cIf_t z] at h0 ⊢
    refine vWf_fin hB2 ?_ (Nat.mul_pos wx.1 wy.1) ?_ z h0
    · rw [sg_prod0 wx.2.2.2.2.1 wy.2.2.2.2.1, wx.2.2.2.1, wy.2.2.2.1, Nat.mul_eq_zero]
    · rcases wx.2.2.2.2.1 with q | q | q <;> rcases wy.2.2.2.2.1 with r | r | r <;> rw [q, r] <;> decide
  · rw [cIf_f z] at h0; exact absurd h0 (show (8 : Nat) ≠ 0 by decide)
theorem vWf_div {B : Nat} {x y : Vl} (hB2 : B ≤ 512) (wx : vWf x) (wy : vWf y) (h0 : (vDiv B x y).1 = 0) : vWf (vDiv B x y).2 := by
  unfold vDiv at h0 ⊢
  by_cases z0 : y.1 = 0
  · rw [cIf_t z0] at h0; exact absurd h0 (show (6 : Nat) ≠ 0 by decide)
  rw [cIf_f z0] at h0 ⊢
  have hy0 : y.2.1 ≠ 0 := fun q => z0 (wy.2.2.2.1.mpr q)
  by_cases z : pOk (fun k => x.2.2.2 k + -y.2.2.2 k)
  · rw [cIf_t z] at h0 ⊢
    refine vWf_fin hB2 ?_ (Nat.mul_pos wx.1 (by omega)) ?_ z h0
    · rw [sg_prod0 wx.2.2.2.2.1 wy.2.2.2.2.1, wx.2.2.2.1, Nat.mul_eq_zero]
      have := wy.1
      constructor
      · rintro (q | q)
        · exact Or.inl q
        · exact absurd q z0
      · rintro (q | q)
        · exact Or.inl q
        · omega
    · rcases wx.2.2.2.2.1 with q | q | q <;> rcases wy.2.2.2.2.1 with r | r | r <;> rw [q, r] <;> decide
  · rw [cIf_f z] at h0; exact absurd h0 (show (8 : Nat) ≠ 0 by decide)
theorem vWf_pow {B : Nat} {x : Vl} {m : Nat} {ng : Bool} {n : Int32} (hB : 0 < B) (hB2 : B ≤ 512) (wx : vWf x) (hm : ng = true → 0 < m) (h0 : (vPow B x m ng n).1 = 0) : vWf (vPow B x m ng n).2 := by
  unfold vPow at h0 ⊢
  by_cases z0 : x.1 = 0 ∧ ng = true
  · rw [cIf_t z0] at h0; exact absurd h0 (show (6 : Nat) ≠ 0 by decide)
  rw [cIf_f z0] at h0 ⊢
  by_cases z : pOk (fun k => x.2.2.2 k * n)
  · rw [cIf_t z] at h0 ⊢
    obtain ⟨T, hT⟩ : ∃ T, T = if ng then x.2.2.1 else x.2.1 := ⟨_, rfl⟩
    obtain ⟨D, hD⟩ : ∃ D, D = if ng then x.2.1 else x.2.2.1 := ⟨_, rfl⟩
    rw [← hT, ← hD] at h0 ⊢
    obtain ⟨w1, w2, w3, w4, w5, w6, w7⟩ := wx
    have hD0 : 0 < D := by
      rw [hD]
      cases ng
      · exact w1
      · have : x.2.1 ≠ 0 := fun q => z0 ⟨w4.mpr q, rfl⟩
        show 0 < x.2.1; omega
    have hT0 : T = 0 ↔ x.1 = 0 := by
      rw [hT]
      cases ng
      · exact w4.symm
      · constructor
        · intro q; exact absurd q (by show ¬ x.2.2.1 = 0; omega)
        · intro q; exact absurd ⟨q, rfl⟩ z0
    have hg : Nat.gcd T D = 1 := by
      rw [hT, hD]
      cases ng
      · exact w6
      · show Nat.gcd x.2.2.1 x.2.1 = 1; rw [Nat.gcd_comm]; exact w6
    have pr := pow_red (B := B) (m := m) (i := m) (j := m) (s := if m = 0 then 1 else if m % 2 = 0 then x.1 * x.1 else x.1) (p := fun k => x.2.2.2 k * n) hB hg hD0 (Nat.le_refl _) (Nat.le_refl _) (Or.inl rfl) (Or.inl rfl) (fun q r => sg_pow0 (hT0.mp q) r)
    rw [← pr.1] at h0
    rw [← pr.2 h0]
    refine vWf_fin hB2 ?_ (Nat.pow_pos hD0) (sg_pow1 w5) z h0
    by_cases y : x.1 = 0
    · by_cases m0 : m = 0
      · subst m0
        rw [if_pos rfl, Nat.pow_zero]; decide
      · rw [sg_pow0 y m0, hT0.mpr y, Nat.zero_pow (by omega)]; decide
    · constructor
      · intro q; exact absurd q (sg_pow2 w5 y)
      · intro q
        have : 0 < T := by have := mt hT0.mp y; omega
        exact absurd q (by have := Nat.pow_pos (n := m) this; omega)
  · rw [cIf_f z] at h0; exact absurd h0 (show (8 : Nat) ≠ 0 by decide)
theorem vSum_wf {x y : Vl} {s : Int32} (wx : vWf x) (wy : vWf y) (hs : s = y.1 ∨ s = -y.1) : 0 < (vSum x y s).2.2.1 ∧ (vSum x y s).2.2.2 = x.2.2.2 ∧ ((vSum x y s).1 = -1 ∨ (vSum x y s).1 = 0 ∨ (vSum x y s).1 = 1) ∧ ((vSum x y s).1 = 0 → (vSum x y s).2.1 = 0) := by
  obtain ⟨wx1, wx2, wx3, wx4, wx5, wx6, wx7⟩ := wx
  obtain ⟨wy1, wy2, wy3, wy4, wy5, wy6, wy7⟩ := wy
  have hs3 : s = -1 ∨ s = 0 ∨ s = 1 := by
    rcases hs with rfl | rfl
    · exact wy5
    · exact sg_neg wy5
  have hs0 : s = 0 ↔ y.2.1 = 0 := by
    rcases hs with rfl | rfl
    · exact wy4
    · exact (sg_neg0 wy5).trans wy4
  have hb0 : 0 < x.2.2.1 * y.2.2.1 := Nat.mul_pos wx1 wy1
  unfold vSum
  by_cases h1 : x.1 = 0 ∨ s = 0 ∨ x.1 = s
  · rw [cIf_t h1]
    refine ⟨hb0, rfl, ?_, ?_⟩
    · show cIf (x.1 = 0) s x.1 = -1 ∨ cIf (x.1 = 0) s x.1 = 0 ∨ cIf (x.1 = 0) s x.1 = 1
      by_cases h2 : x.1 = 0
      · rw [cIf_t h2]; exact hs3
      · rw [cIf_f h2]; exact wx5
    · show cIf (x.1 = 0) s x.1 = 0 → x.2.1 * y.2.2.1 + y.2.1 * x.2.2.1 = 0
      intro z
      by_cases h2 : x.1 = 0
      · rw [cIf_t h2] at z
        rw [wx4.mp h2, hs0.mp z, Nat.zero_mul, Nat.zero_mul]
      · rw [cIf_f h2] at z; exact absurd z h2
  · rw [cIf_f h1]
    have n1 : x.1 ≠ 0 := fun z => h1 (Or.inl z)
    have n2 : s ≠ 0 := fun z => h1 (Or.inr (Or.inl z))
    by_cases h2 : y.2.1 * x.2.2.1 ≤ x.2.1 * y.2.2.1
    · rw [cIf_t h2]; exact ⟨hb0, rfl, wx5, fun z => absurd z n1⟩
    · rw [cIf_f h2]; exact ⟨hb0, rfl, hs3, fun z => absurd z n2⟩
theorem vWf_add {B : Nat} {x y : Vl} {s : Int32} (hB2 : B ≤ 512) (wx : vWf x) (wy : vWf y) (hs : s = y.1 ∨ s = -y.1) (h0 : (vAdd B x y s).1 = 0) : vWf (vAdd B x y s).2 := by
  unfold vAdd at h0 ⊢
  by_cases z : pEq x.2.2.2 y.2.2.2
  · rw [cIf_t z] at h0 ⊢
    obtain ⟨s1, s2, s3, s4⟩ := vSum_wf wx wy hs
    obtain ⟨w, hw⟩ : ∃ w, w = vSum x y s := ⟨_, rfl⟩
    rw [← hw] at h0 s1 s2 s3 s4 ⊢
    obtain ⟨ws, wt, wd, wp⟩ := w
    by_cases q : wt = 0
    · -- the sign goes
      have e : vRed (ws, wt, wd, wp) = vRed ((0 : Int32), wt, wd, wp) := by
        unfold vRed
        rw [if_pos (show wt = 0 from q), if_pos (show wt = 0 from q)]
      rw [e] at h0 ⊢
      refine vWf_fin hB2 ⟨fun _ => q, fun _ => rfl⟩ s1 (Or.inr (Or.inl rfl)) ?_ h0
      have e2 : wp = x.2.2.2 := s2
      rw [e2]; exact wx.2.2.2.2.2.2
    · refine vWf_fin hB2 ⟨s4, fun r => absurd r q⟩ s1 s3 ?_ h0
      have e2 : wp = x.2.2.2 := s2
      rw [e2]; exact wx.2.2.2.2.2.2
  · rw [cIf_f z] at h0; exact absurd h0 (show (7 : Nat) ≠ 0 by decide)
section Act
variable {g : xG} {l : Launch} {h : xH} {J : Nat → Nat → Int32} {Q : Option Value → xH → Prop}
theorem c_raiseB {e a B m : Nat} {x : Vl} {ng : Bool} {n : Int32} (hB : CB h e) (hA : CV h a) (hx : VJ J a x) (wx : vWf x) (hb : J e 0 = nI B) (hb2 : B ≤ 512) (hm : m ≤ 99) (hn : ng = false ∧ n = nI m ∨ ng = true ∧ 0 < m ∧ n = -nI m) (k6 : x.1 = 0 ∧ ng = true → Q (some (.int (nI 6))) (xJ h J)) (k8 : ∀ J', ¬ (x.1 = 0 ∧ ng = true) → ¬ pOk (fun k => x.2.2.2 k * n) → (∀ r, r ≠ a + 5 → J' r = J r) → Q (some (.int (nI 8))) (xJ h J')) (k : ∀ J' i j, ¬ (x.1 = 0 ∧ ng = true) → pOk (fun k => x.2.2.2 k * n) → i ≤ m → j ≤ m → (i = m ∨ 2 ^ B ≤ (if ng then x.2.2.1 else x.2.1) ^ i) → (j = m ∨ 2 ^ B ≤ (if ng then x.2.1 else x.2.2.1) ^ j) → rawP e a J J' (if m = 0 then 1 else if m % 2 = 0 then x.1 * x.1 else x.1) ((if ng then x.2.2.1 else x.2.1) ^ i) ((if ng then x.2.1 else x.2.2.1) ^ j) (fun k => x.2.2.2 k * n) → Q (some (.int (nI 0))) (xJ h J')) : ac g l mX0_raise [.ref e, .ref a, .int n] (xJ h J) Q := by
  refine ac_of (by decide) (Nat.le_of_ble_eq_true rfl) ?_
  have fA := CV_B hA hB
  have hB0 := hB
  obtain ⟨t1, ⟨p1, p2, p4, p5, p6, p7, p8⟩, ⟨d1, d2, d3, d4, d5⟩, t11, t12⟩ := hB
  have hA0 := hA
  obtain ⟨a1, ⟨a2, a3, a4⟩, a5, a6, a7⟩ := hA
  obtain ⟨x1, x2, x3, x4⟩ := hx
  obtain ⟨wx1, wx2, wx3, wx4, wx5, wx6, wx7⟩ := wx
  have eP : ∀ j, j < 8 → n * J (a + 5) j + 0 * J (a + 5) j = x.2.2.2 j * n := fun j hj => by rw [x4 j hj, Int32.zero_mul, Int32.add_zero, Int32.mul_comm]
  have hneg : ¬ (0 ≤ n) ↔ ng = true := by
    rcases hn with ⟨rfl, rfl⟩ | ⟨rfl, hm0, rfl⟩
    · exact ⟨fun z => absurd (nI_pos' (by omega)) z, fun z => by cases z⟩
    · exact ⟨fun _ => rfl, fun _ => Int32.not_le.mpr (nI_neg hm0 (by omega))⟩
  have habs : (if 0 ≤ n then n else 0 - n) = nI m := by
    rcases hn with ⟨rfl, rfl⟩ | ⟨rfl, hm0, rfl⟩
    · rw [if_pos (nI_pos' (by omega))]
    · rw [if_neg (Int32.not_le.mpr (nI_neg hm0 (by omega))), Int32.zero_sub, Int32.neg_neg]
  have go : ¬ (x.1 = 0 ∧ ng = true) → aw g l mX0_raise 14 (lv_args 0 [.ref e, .ref a, .int n]) [] (xJ h J) Q := by
    intro hz
    refine sX0_raise_14 rfl ?_
    refine sX0_raise_15 rfl ?_
    refine sX0_raise_16 rfl ?_
    refine sX0_raise_17 ?_
    refine jX0_raise_18 (Nat.le_of_ble_eq_true rfl) (by assumption) ?_
    refine c_combinePowers hA0 hA0 (fun J1 o1 hp n1 => ?_) (fun J1 o1 hp => ?_)
    rotate_left
    · refine sX0_raise_21 (fun hc => absurd rfl hc) (fun _ => ?_)
      refine nX0_raise_24 ?_
      exact sX0_raise_26 (k8 J1 hz (fun z => hp (pOk_c (fun j hj => (eP j hj).symm) z)) o1)
    refine sX0_raise_21 (fun _ => ?_) (fun hc => absurd hc (by decide))
    refine sX0_raise_27 rfl ?_
    refine mX0_raise_28 (Nat.le_of_ble_eq_true rfl) ?_
    rw [habs]
    have j1 : ∀ o, (o = a + 1 ∧ ng = false ∨ o = a + 3 ∧ ng = true) → aw g l mX0_raise 52 [(0, .ref e), (1, .ref a), (2, .int n), (3, .int (nI m))] [.ref o, .ref (e + 1), .ref e] (xJ h J1) Q := by
      intro o ho
      have cO : CN h o 18 := by rcases ho with ⟨rfl, -⟩ | ⟨rfl, -⟩; exact a5; exact a6
      obtain ⟨T, hT⟩ : ∃ T, T = if ng then x.2.2.1 else x.2.1 := ⟨_, rfl⟩
      rw [← hT] at k
      have nO : NJ J1 o 18 T := by
        rw [hT]
        rcases ho with ⟨rfl, rfl⟩ | ⟨rfl, rfl⟩
        · exact NJ_c (o1 _ (by omega)) (o1 _ (by omega)) x2
        · exact NJ_c (o1 _ (by omega)) (o1 _ (by omega)) x3
      have lT : T < 2 ^ 512 := by rw [hT]; cases ng; exact wx2; exact wx3
      refine sX0_raise_52 rfl ?_
      refine jX0_raise_53 (Nat.le_of_ble_eq_true rfl) (by assumption) ?_
      refine c_setRaised hB0 (Or.inl rfl) cO (by omega) (by rw [o1 _ (by omega)]; exact hb) hb2 nO lT (by omega) (fun J2 i o2 hi1 hi2 hi3 n2 => ?_)
      have j2 : ∀ u, (u = a + 3 ∧ ng = false ∨ u = a + 1 ∧ ng = true) → aw g l mX0_raise 76 [(0, .ref e), (1, .ref a), (2, .int n), (3, .int (nI m))] [.ref u, .ref (e + 3), .ref e] (xJ h J2) Q := by
        intro u hu
        have cU : CN h u 18 := by rcases hu with ⟨rfl, -⟩ | ⟨rfl, -⟩; exact a6; exact a5
        obtain ⟨D, hD⟩ : ∃ D, D = if ng then x.2.1 else x.2.2.1 := ⟨_, rfl⟩
        rw [← hD] at k
        have nU : NJ J2 u 18 D := by
          rw [hD]
          rcases hu with ⟨rfl, rfl⟩ | ⟨rfl, rfl⟩
          · exact NJ_c ((o2 _ (by omega) (by omega) (by omega) (by omega)).trans (o1 _ (by omega))) ((o2 _ (by omega) (by omega) (by omega) (by omega)).trans (o1 _ (by omega))) x3
          · exact NJ_c ((o2 _ (by omega) (by omega) (by omega) (by omega)).trans (o1 _ (by omega))) ((o2 _ (by omega) (by omega) (by omega) (by omega)).trans (o1 _ (by omega))) x2
        have lD : D < 2 ^ 512 := by rw [hD]; cases ng; exact wx3; exact wx2
        refine sX0_raise_76 rfl ?_
        refine jX0_raise_77 (Nat.le_of_ble_eq_true rfl) (by assumption) ?_
        refine c_setRaised hB0 (Or.inr rfl) cU (by omega) (by rw [o2 _ (by omega) (by omega) (by omega) (by omega), o1 _ (by omega)]; exact hb) hb2 nU lD (by omega) (fun J3 j o3 hj1 hj2 hj3 n3 => ?_)
        have sx : J3 a 0 = x.1 := by rw [o3 _ (by omega) (by omega) (by omega) (by omega), o2 _ (by omega) (by omega) (by omega) (by omega), o1 _ (by omega)]; exact x1
        have fin : ∀ s lv0, s = (if m = 0 then 1 else if m % 2 = 0 then x.1 * x.1 else x.1) → aw g l mX0_raise 111 lv0 [.int s, .ref e] (xJ h J3) Q := by
          intro s lv0 hs
          refine jX0_raise_111 (by assumption) ?_
          refine nX0_raise_114 ?_
          refine sX0_raise_115 (k (xup2 J3 e 3 s) i j hz (pOk_c eP hp) hi1 hj1 hi2 hj2 ⟨fun r z1 z2 => ?_, ?_, by rw [xup2_s]; exact hs, NJ_c (xup2_r (by omega)) (xup2_r (by omega)) (NJ_c (o3 _ (by omega) (by omega) (by omega) (by omega)) (o3 _ (by omega) (by omega) (by omega) (by omega)) n2), NJ_c (xup2_r (by omega)) (xup2_r (by omega)) n3, fun jj hjj => ?_⟩)
          · rw [xup2_r (by omega), o3 r (by omega) (by omega) (by omega) (by omega), o2 r (by omega) (by omega) (by omega) (by omega), o1 r z2]
          · rw [xup2_n (by omega), o3 e (by omega) (by omega) (by omega) (by omega), o2 e (by omega) (by omega) (by omega) (by omega), o1 e (by omega)]
          · rw [xup2_r (by omega), o3 _ (by omega) (by omega) (by omega) (by omega), o2 _ (by omega) (by omega) (by omega) (by omega), n1 jj hjj]; exact eP jj hjj
        refine sX0_raise_80 rfl ?_
        refine sX0_raise_81 rfl ?_
        refine nX0_raise_82 (by omega) (fun m0 => ?_) (fun m0 => ?_)
        · refine sX0_raise_89 rfl ?_
          refine nX0_raise_90 ?_
          refine nX0_raise_91 (by omega) (by omega) (by omega) ?_
          refine nX0_raise_92 (by omega) (fun m2 => ?_) (fun m2 => ?_)
          · refine sX0_raise_107 rfl ?_
            refine jX0_raise_108 (by assumption) ?_
            rw [sx]
            exact fin _ _ (by rw [if_neg m0, if_neg m2])
          · refine sX0_raise_95 rfl ?_
            refine jX0_raise_96 (by assumption) ?_
            rw [sx]
            refine sX0_raise_99 rfl ?_
            refine jX0_raise_100 (by assumption) ?_
            rw [sx]
            refine sX0_raise_103 ?_
            refine sX0_raise_104 ?_
            exact fin _ _ (by rw [if_neg m0, if_pos m2])
        · refine sX0_raise_85 ?_
          refine sX0_raise_86 ?_
          exact fin _ _ (by rw [if_pos m0])
      refine sX0_raise_56 rfl ?_
      refine sX0_raise_57 rfl ?_
      refine jX0_raise_58 (by assumption) (by assumption) ?_
      refine sX0_raise_61 rfl ?_
      refine sX0_raise_62 (fun hc => ?_) (fun hc => ?_)
      · refine sX0_raise_72 rfl ?_
        refine jX0_raise_73 (by assumption) (by assumption) ?_
        exact j2 _ (Or.inl ⟨rfl, by cases ng with | false => rfl | true => exact absurd hc (hneg.mpr rfl)⟩)
      · refine sX0_raise_65 rfl ?_
        refine jX0_raise_66 (by assumption) (by assumption) ?_
        refine sX0_raise_69 ?_
        exact j2 _ (Or.inr ⟨rfl, hneg.mp hc⟩)
    refine sX0_raise_31 ?_
    refine sX0_raise_32 rfl ?_
    refine sX0_raise_33 rfl ?_
    refine jX0_raise_34 (by assumption) (by assumption) ?_
    refine sX0_raise_37 rfl ?_
    refine sX0_raise_38 (fun hc => ?_) (fun hc => ?_)
    · refine sX0_raise_48 rfl ?_
      refine jX0_raise_49 (by assumption) (by assumption) ?_
      exact j1 _ (Or.inl ⟨rfl, by cases ng with | false => rfl | true => exact absurd hc (hneg.mpr rfl)⟩)
    · refine sX0_raise_41 rfl ?_
      refine jX0_raise_42 (by assumption) (by assumption) ?_
      refine sX0_raise_45 ?_
      exact j1 _ (Or.inr ⟨rfl, hneg.mp hc⟩)
  refine sX0_raise_0 rfl ?_
  refine jX0_raise_1 (by assumption) ?_
  rw [x1]
  refine sX0_raise_4 (fun hc => go (fun z => hc z.1)) (fun hc => ?_)
  refine sX0_raise_7 rfl ?_
  refine sX0_raise_8 (fun hc2 => go (fun z => absurd hc2 (hneg.mpr z.2))) (fun hc2 => ?_)
  refine nX0_raise_11 ?_
  exact sX0_raise_13 (k6 ⟨hc, hneg.mp hc2⟩)
theorem act_tail {e a B : Nat} {s : Int32} {t d : Nat} {p : Nat → Int32} {J1 : Nat → Nat → Int32} {lv0 : List (Nat × Value)} (hB : CB h e) (hA : CV h a) (hb : J e 0 = nI B) (hb2 : B ≤ 512) (hr : rawP e a J J1 s t d p) (hs : t = 0 → s = 0) (hd : 0 < d) (hlv : ∀ z ∈ ([(0, .ref e), (3, .ref a)] : List (Nat × Value)), z ∈ lv0) (k : ∀ J', yoA e a J J' → ((vFin B (vRed (s, t, d, p))).1 = 0 → VJ J' a (vFin B (vRed (s, t, d, p))).2) → Q (some (.int (nI (vFin B (vRed (s, t, d, p))).1))) (xJ h J')) : aw g l mX0_act 164 lv0 [] (xJ h J1) Q := by
  refine aw_lv hlv ?_
  have fA := CV_B hA hB
  have t1 := hB.1
  obtain ⟨r1, r2, r3, r4, r5, r6⟩ := hr
  have e0 := vRed_eq (s := s) (t := t) (d := d) (p := p) hs
  refine sX0_act_164 rfl ?_
  refine jX0_act_165 (Nat.le_of_ble_eq_true rfl) (by assumption) ?_
  refine c_reduceB hB r4 r5 hd (fun J2 o2 n2 m2 => ?_)
  refine sX0_act_168 rfl ?_
  refine sX0_act_169 rfl ?_
  refine jX0_act_170 (Nat.le_of_ble_eq_true rfl) (by assumption) ?_
  obtain ⟨T, hT⟩ : ∃ T, T = if t = 0 then 0 else t / Nat.gcd t d := ⟨_, rfl⟩
  obtain ⟨D, hD⟩ : ∃ D, D = if t = 0 then 1 else d / Nat.gcd t d := ⟨_, rfl⟩
  rw [← hT] at n2 e0
  rw [← hD] at m2 e0
  rw [e0] at k
  refine c_putInto hB hA (by rw [o2 e (by omega), r2]; exact hb) hb2 n2 m2 (fun J3 hb3 o3 g3 n3 m3 => ?_) (fun hb3 => ?_)
  · have hv : vFin B (s, T, D, p) = (0, (s, T, D, p)) := vFin_0 hb3
    rw [hv] at k
    refine sX0_act_173 (k J3 ⟨fun r z1 z2 => ?_, ?_⟩ (fun _ => ⟨?_, n3, m3, fun j hj => ?_⟩))
    · rw [o3 r (by omega), o2 r (by omega), r1 r z1 (by omega)]
    · rw [o3 e (by omega), o2 e (by omega), r2]
    · rw [g3, o2 e (by omega)]; exact r3
    · rw [o3 _ (by omega), o2 _ (by omega)]; exact r6 j hj
  · have hv : vFin B (s, T, D, p) = (9, (s, T, D, p)) := vFin_1 hb3
    rw [hv] at k
    refine sX0_act_173 (k J2 ⟨fun r z1 z2 => ?_, ?_⟩ (fun z => absurd z (show (9 : Nat) ≠ 0 by decide)))
    · rw [o2 r (by omega), r1 r z1 (by omega)]
    · rw [o2 e (by omega), r2]
/-- what act answers -/
def actP (h : xH) (e a : Nat) (J : Nat → Nat → Int32) (R : Nat × Vl) (Q : Option Value → xH → Prop) : Prop := ∀ J', yoA e a J J' → (R.1 = 0 → VJ J' a R.2) → Q (some (.int (nI R.1))) (xJ h J')
theorem act_bad {e a f : Nat} {n1 n2 : Value} {b : Nat} {lv0 : List (Nat × Value)} {J1 : Nat → Nat → Int32} (hf0 : f ≠ 0) (hf : f < 100) (hlv : ∀ z ∈ ([(5, .int (nI f))] : List (Nat × Value)), z ∈ lv0) (k : Q (some (.int (nI f))) (xJ h J1)) : aw g l mX0_act 156 lv0 [] (xJ h J1) Q := by
  refine aw_lv hlv ?_
  refine sX0_act_156 rfl ?_
  refine nX0_act_158 (by omega) (fun z => absurd z hf0) (fun _ => ?_)
  refine sX0_act_161 rfl ?_
  exact sX0_act_163 k
theorem c_actNeg {e a b B : Nat} {x : Vl} {n : Int32} (hB : CB h e) (hA : CV h a) (hx : VJ J a x) (k : ∀ J', (∀ r, r ≠ a → J' r = J r) → VJ J' a (vS x (-x.1)) → Q (some (.int (nI 0))) (xJ h J')) : ac g l mX0_act [.ref e, .int (nI 13), .int n, .ref a, .ref b] (xJ h J) Q := by
  refine ac_of (by decide) (Nat.le_of_ble_eq_true rfl) ?_
  obtain ⟨a1, ⟨a2, a3, a4⟩, a5, a6, a7⟩ := hA
  obtain ⟨x1, x2, x3, x4⟩ := hx
  refine sX0_act_0 ?_
  refine sX0_act_1 ?_
  refine sX0_act_3 rfl ?_
  refine sX0_act_4 ?_
  show aw g l mX0_act 52 _ _ _ Q
  refine sX0_act_52 rfl ?_
  refine sX0_act_53 rfl ?_
  refine jX0_act_54 (by assumption) ?_
  rw [x1]
  refine sX0_act_57 ?_
  refine jX0_act_58 (by assumption) ?_
  refine nX0_act_61 ?_
  exact sX0_act_62 (k _ (fun r hr => xup2_r hr) ⟨by rw [xup2_s]; rfl, NJ_c (xup2_r (by omega)) (xup2_r (by omega)) x2, NJ_c (xup2_r (by omega)) (xup2_r (by omega)) x3, fun j hj => by rw [xup2_r (by omega)]; exact x4 j hj⟩)
theorem act_add {e a b B : Nat} {x y : Vl} {s : Int32} {lv0 : List (Nat × Value)} {pc : Nat} (hB : CB h e) (hA : CV h a) (hD : CV h b) (hne : b ≠ a) (hx : VJ J a x) (hy : VJ J b y) (wx : vWf x) (wy : vWf y) (hb : J e 0 = nI B) (hb2 : B ≤ 512) (hs : s = y.1 ∨ s = -y.1) (hgo : ∀ f h1, aw g l mX0_act 156 [(0, .ref e), (3, .ref a), (5, .int (nI f))] [] h1 Q → aw g l mX0_act pc lv0 [.int (nI f)] h1 Q) (k : actP h e a J (vAdd B x y s) Q) : ac g l mX0_addUp [.ref e, .ref a, .ref b, .int s] (xJ h J) (fun r h1 => aw g l mX0_act pc lv0 (r.toList ++ []) h1 Q) := by
  refine c_addUp hB hA hD hne hx hy wx wy hs (fun h7 => ?_) (fun J1 z hp h1 h2 h3 h4 h5 => ?_)
  · refine hgo 7 _ (act_bad (e := e) (a := a) (f := 7) (n1 := .int 0) (n2 := .int 0) (b := b) (by decide) (by decide) (fun z hz => ?_) ?_)
    · simp only [List.mem_cons, List.not_mem_nil, or_false] at hz
      rcases hz with rfl; exact xlk_mem rfl
    · have hv : vAdd B x y s = (7, x) := cIf_f h7
      rw [hv] at k
      exact k J ⟨fun _ _ _ => rfl, rfl⟩ (fun z => absurd z (show (7 : Nat) ≠ 0 by decide))
  · have hv : vAdd B x y s = vFin B (vRed (vSum x y s)) := cIf_t hp
    rw [hv, h1] at k
    obtain ⟨zs, zt, zd, zp⟩ := z
    have h5' : zp = x.2.2.2 := h5
    subst h5'
    refine hgo 0 _ ?_
    refine sX0_act_156 rfl ?_
    refine nX0_act_158 (by omega) (fun _ => ?_) (fun z => absurd rfl z)
    exact act_tail hB hA hb hb2 h4 h2 h3 (fun z hz => by
      simp only [List.mem_cons, List.not_mem_nil, or_false] at hz
      rcases hz with rfl | rfl <;> exact xlk_mem rfl) k
theorem c_actAdd {e a b B : Nat} {x y : Vl} {n : Int32} (hB : CB h e) (hA : CV h a) (hD : CV h b) (hne : b ≠ a) (hx : VJ J a x) (hy : VJ J b y) (wx : vWf x) (wy : vWf y) (hb : J e 0 = nI B) (hb2 : B ≤ 512) (k : actP h e a J (vAdd B x y y.1) Q) : ac g l mX0_act [.ref e, .int (nI 11), .int n, .ref a, .ref b] (xJ h J) Q := by
  refine ac_of (by decide) (Nat.le_of_ble_eq_true rfl) ?_
  have t1 := hB.1
  have b1 := hD.1
  refine sX0_act_0 ?_
  refine sX0_act_1 ?_
  refine sX0_act_3 rfl ?_
  refine sX0_act_4 ?_
  show aw g l mX0_act 63 _ _ _ Q
  refine sX0_act_63 rfl ?_
  refine sX0_act_64 rfl ?_
  refine sX0_act_65 rfl ?_
  refine sX0_act_67 rfl ?_
  refine jX0_act_69 (by assumption) ?_
  rw [hy.1]
  refine jX0_act_72 (Nat.le_of_ble_eq_true rfl) (by assumption) ?_
  refine act_add hB hA hD hne hx hy wx wy hb hb2 (Or.inl rfl) (fun f h1 kk => ?_) k
  refine sX0_act_75 ?_
  refine sX0_act_77 ?_
  exact aw_lv (fun z hz => by
    simp only [List.mem_cons, List.not_mem_nil, or_false] at hz
    rcases hz with rfl | rfl | rfl <;> exact xlk_mem rfl) kk
theorem c_actSub {e a b B : Nat} {x y : Vl} {n : Int32} (hB : CB h e) (hA : CV h a) (hD : CV h b) (hne : b ≠ a) (hx : VJ J a x) (hy : VJ J b y) (wx : vWf x) (wy : vWf y) (hb : J e 0 = nI B) (hb2 : B ≤ 512) (k : actP h e a J (vAdd B x y (-y.1)) Q) : ac g l mX0_act [.ref e, .int (nI 12), .int n, .ref a, .ref b] (xJ h J) Q := by
  refine ac_of (by decide) (Nat.le_of_ble_eq_true rfl) ?_
  have t1 := hB.1
  have b1 := hD.1
  refine sX0_act_0 ?_
  refine sX0_act_1 ?_
  refine sX0_act_3 rfl ?_
  refine sX0_act_4 ?_
  show aw g l mX0_act 80 _ _ _ Q
  refine sX0_act_80 rfl ?_
  refine sX0_act_81 rfl ?_
  refine sX0_act_82 rfl ?_
  refine sX0_act_84 rfl ?_
  refine jX0_act_86 (by assumption) ?_
  rw [hy.1]
  refine sX0_act_89 ?_
  refine jX0_act_90 (Nat.le_of_ble_eq_true rfl) (by assumption) ?_
  refine act_add hB hA hD hne hx hy wx wy hb hb2 (Or.inr rfl) (fun f h1 kk => ?_) k
  refine sX0_act_93 ?_
  refine sX0_act_95 ?_
  exact aw_lv (fun z hz => by
    simp only [List.mem_cons, List.not_mem_nil, or_false] at hz
    rcases hz with rfl | rfl | rfl <;> exact xlk_mem rfl) kk
theorem c_actMul {e a b B : Nat} {x y : Vl} {n : Int32} (hB : CB h e) (hA : CV h a) (hD : CV h b) (hne : b ≠ a) (hx : VJ J a x) (hy : VJ J b y) (wx : vWf x) (wy : vWf y) (hb : J e 0 = nI B) (hb2 : B ≤ 512) (k : actP h e a J (vMul B x y) Q) : ac g l mX0_act [.ref e, .int (nI 14), .int n, .ref a, .ref b] (xJ h J) Q := by
  refine ac_of (by decide) (Nat.le_of_ble_eq_true rfl) ?_
  have t1 := hB.1
  have fA := CV_B hA hB
  refine sX0_act_0 ?_
  refine sX0_act_1 ?_
  refine sX0_act_3 rfl ?_
  refine sX0_act_4 ?_
  show aw g l mX0_act 98 _ _ _ Q
  refine sX0_act_98 rfl ?_
  refine sX0_act_99 rfl ?_
  refine sX0_act_100 rfl ?_
  refine jX0_act_102 (Nat.le_of_ble_eq_true rfl) (by assumption) ?_
  refine c_multiplyB hB hA hD hne hx hy wx wy (fun J1 h8 o1 => ?_) (fun J1 hp hr => ?_)
  · show aw g l mX0_act 105 _ [.int (nI 8)] _ Q
    refine sX0_act_105 ?_
    refine sX0_act_107 ?_
    have hv : vMul B x y = (8, x) := cIf_f h8
    rw [hv] at k
    refine act_bad (e := e) (a := a) (f := 8) (n1 := .int 0) (n2 := .int 0) (b := b) (by decide) (by decide) (fun z hz => ?_) (k J1 ⟨fun r z1 z2 => o1 r (by omega), by rw [o1 e (by omega)]⟩ (fun z => absurd z (show (8 : Nat) ≠ 0 by decide)))
    simp only [List.mem_cons, List.not_mem_nil, or_false] at hz
    rcases hz with rfl; exact xlk_mem rfl
  · show aw g l mX0_act 105 _ [.int (nI 0)] _ Q
    have hv : vMul B x y = vFin B (vRed (x.1 * y.1, x.2.1 * y.2.1, x.2.2.1 * y.2.2.1, fun k => x.2.2.2 k + y.2.2.2 k)) := cIf_t hp
    rw [hv] at k
    refine sX0_act_105 ?_
    refine sX0_act_107 ?_
    refine sX0_act_156 rfl ?_
    refine nX0_act_158 (by omega) (fun _ => ?_) (fun z => absurd rfl z)
    refine act_tail hB hA hb hb2 hr (fun z => ?_) (Nat.mul_pos wx.1 wy.1) (fun z hz => by
      simp only [List.mem_cons, List.not_mem_nil, or_false] at hz
      rcases hz with rfl | rfl <;> exact xlk_mem rfl) k
    rw [sg_prod0 wx.2.2.2.2.1 wy.2.2.2.2.1, wx.2.2.2.1, wy.2.2.2.1]
    exact Nat.mul_eq_zero.mp z
theorem act_div {e a b B : Nat} {x y : Vl} {lv0 : List (Nat × Value)} {pc : Nat} (hB : CB h e) (hA : CV h a) (hD : CV h b) (hne : b ≠ a) (hx : VJ J a x) (hy : VJ J b y) (wx : vWf x) (wy : vWf y) (hb : J e 0 = nI B) (hb2 : B ≤ 512) (hgo : ∀ f h1, aw g l mX0_act 156 [(0, .ref e), (3, .ref a), (5, .int (nI f))] [] h1 Q → aw g l mX0_act pc lv0 [.int (nI f)] h1 Q) (k : actP h e a J (vDiv B x y) Q) : ac g l mX0_divide [.ref e, .ref a, .ref b] (xJ h J) (fun r h1 => aw g l mX0_act pc lv0 (r.toList ++ []) h1 Q) := by
  have fA := CV_B hA hB
  refine c_divideB hB hA hD hne hx hy wx wy (fun h6 => ?_) (fun J1 h6 h8 o1 => ?_) (fun J1 h6 hp hr => ?_)
  · have hv : vDiv B x y = (6, x) := cIf_t h6
    rw [hv] at k
    refine hgo 6 _ (act_bad (e := e) (a := a) (f := 6) (n1 := .int 0) (n2 := .int 0) (b := b) (by decide) (by decide) (fun z hz => ?_) (k J ⟨fun _ _ _ => rfl, rfl⟩ (fun z => absurd z (show (6 : Nat) ≠ 0 by decide))))
    simp only [List.mem_cons, List.not_mem_nil, or_false] at hz
    rcases hz with rfl; exact xlk_mem rfl
  · have hv : vDiv B x y = (8, x) := (cIf_f h6).trans (cIf_f h8)
    rw [hv] at k
    refine hgo 8 _ (act_bad (e := e) (a := a) (f := 8) (n1 := .int 0) (n2 := .int 0) (b := b) (by decide) (by decide) (fun z hz => ?_) (k J1 ⟨fun r z1 z2 => o1 r (by omega), by rw [o1 e (by omega)]⟩ (fun z => absurd z (show (8 : Nat) ≠ 0 by decide))))
    simp only [List.mem_cons, List.not_mem_nil, or_false] at hz
    rcases hz with rfl; exact xlk_mem rfl
  · have hv : vDiv B x y = vFin B (vRed (x.1 * y.1, x.2.1 * y.2.2.1, x.2.2.1 * y.2.1, fun k => x.2.2.2 k + -y.2.2.2 k)) := (cIf_f h6).trans (cIf_t hp)
    rw [hv] at k
    have hy0 : y.2.1 ≠ 0 := fun q => h6 (wy.2.2.2.1.mpr q)
    refine hgo 0 _ ?_
    refine sX0_act_156 rfl ?_
    refine nX0_act_158 (by omega) (fun _ => ?_) (fun z => absurd rfl z)
    refine act_tail hB hA hb hb2 hr (fun z => ?_) (Nat.mul_pos wx.1 (by omega)) (fun z hz => by
      simp only [List.mem_cons, List.not_mem_nil, or_false] at hz
      rcases hz with rfl | rfl <;> exact xlk_mem rfl) k
    rw [sg_prod0 wx.2.2.2.2.1 wy.2.2.2.2.1, wx.2.2.2.1]
    rcases Nat.mul_eq_zero.mp z with q | q
    · exact Or.inl q
    · have := wy.1; omega
theorem c_actDiv {e a b B : Nat} {x y : Vl} {n : Int32} (hB : CB h e) (hA : CV h a) (hD : CV h b) (hne : b ≠ a) (hx : VJ J a x) (hy : VJ J b y) (wx : vWf x) (wy : vWf y) (hb : J e 0 = nI B) (hb2 : B ≤ 512) (k : actP h e a J (vDiv B x y) Q) : ac g l mX0_act [.ref e, .int (nI 15), .int n, .ref a, .ref b] (xJ h J) Q := by
  refine ac_of (by decide) (Nat.le_of_ble_eq_true rfl) ?_
  have t1 := hB.1
  refine sX0_act_0 ?_
  refine sX0_act_1 ?_
  refine sX0_act_3 rfl ?_
  refine sX0_act_4 ?_
  show aw g l mX0_act 147 _ _ _ Q
  refine sX0_act_147 rfl ?_
  refine sX0_act_148 rfl ?_
  refine sX0_act_149 rfl ?_
  refine jX0_act_151 (Nat.le_of_ble_eq_true rfl) (by assumption) ?_
  refine act_div hB hA hD hne hx hy wx wy hb hb2 (fun f h1 kk => ?_) k
  refine sX0_act_154 ?_
  exact aw_lv (fun z hz => by
    simp only [List.mem_cons, List.not_mem_nil, or_false] at hz
    rcases hz with rfl | rfl | rfl <;> exact xlk_mem rfl) kk
noncomputable def vTurn (B : Nat) (x y : Vl) : Nat × Vl := cIf (pEq x.2.2.2 y.2.2.2) (vDiv B x y) (7, x)
theorem c_actTurn {e a b B : Nat} {x y : Vl} {n : Int32} (hB : CB h e) (hA : CV h a) (hD : CV h b) (hne : b ≠ a) (hx : VJ J a x) (hy : VJ J b y) (wx : vWf x) (wy : vWf y) (hb : J e 0 = nI B) (hb2 : B ≤ 512) (k : actP h e a J (vTurn B x y) Q) : ac g l mX0_act [.ref e, .int (nI 18), .int n, .ref a, .ref b] (xJ h J) Q := by
  refine ac_of (by decide) (Nat.le_of_ble_eq_true rfl) ?_
  have t1 := hB.1
  have a1 := hA.1
  have x4 := hx.2.2.2
  have y4 := hy.2.2.2
  have eP : pEq (J (a + 5)) (J (b + 5)) ↔ pEq x.2.2.2 y.2.2.2 := ⟨fun z j hj => by rw [← x4 j hj, ← y4 j hj]; exact z j hj, fun z j hj => by rw [x4 j hj, y4 j hj]; exact z j hj⟩
  refine sX0_act_0 ?_
  refine sX0_act_1 ?_
  refine sX0_act_3 rfl ?_
  refine sX0_act_4 ?_
  show aw g l mX0_act 110 _ _ _ Q
  refine sX0_act_110 rfl ?_
  refine sX0_act_111 rfl ?_
  refine jX0_act_113 (Nat.le_of_ble_eq_true rfl) (by assumption) ?_
  refine c_hasPowersOf hA hD (fun hp => ?_) (fun hp => ?_)
  · refine sX0_act_116 (fun hc => absurd hc (by decide)) (fun _ => ?_)
    have hv : vTurn B x y = vDiv B x y := cIf_t (eP.mp hp)
    rw [hv] at k
    refine sX0_act_119 rfl ?_
    refine sX0_act_120 rfl ?_
    refine sX0_act_121 rfl ?_
    refine jX0_act_123 (Nat.le_of_ble_eq_true rfl) (by assumption) ?_
    refine act_div hB hA hD hne hx hy wx wy hb hb2 (fun f h1 kk => ?_) k
    refine sX0_act_126 ?_
    refine sX0_act_131 ?_
    refine sX0_act_133 ?_
    exact aw_lv (fun z hz => by
      simp only [List.mem_cons, List.not_mem_nil, or_false] at hz
      rcases hz with rfl | rfl | rfl <;> exact xlk_mem rfl) kk
  · refine sX0_act_116 (fun _ => ?_) (fun hc => absurd rfl hc)
    have hv : vTurn B x y = (7, x) := cIf_f (fun z => hp (eP.mpr z))
    rw [hv] at k
    refine nX0_act_129 ?_
    refine sX0_act_131 ?_
    refine sX0_act_133 ?_
    refine act_bad (e := e) (a := a) (f := 7) (n1 := .int 0) (n2 := .int 0) (b := b) (by decide) (by decide) (fun z hz => ?_) (k J ⟨fun _ _ _ => rfl, rfl⟩ (fun z => absurd z (show (7 : Nat) ≠ 0 by decide)))
    simp only [List.mem_cons, List.not_mem_nil, or_false] at hz
    rcases hz with rfl; exact xlk_mem rfl
theorem c_actRaise {e a b B m : Nat} {x : Vl} {ng : Bool} {n : Int32} (hB : CB h e) (hA : CV h a) (hx : VJ J a x) (wx : vWf x) (hb : J e 0 = nI B) (hb0 : 0 < B) (hb2 : B ≤ 512) (hm : m ≤ 99) (hn : ng = false ∧ n = nI m ∨ ng = true ∧ 0 < m ∧ n = -nI m) (k : actP h e a J (vPow B x m ng n) Q) : ac g l mX0_act [.ref e, .int (nI 17), .int n, .ref a, .ref b] (xJ h J) Q := by
  refine ac_of (by decide) (Nat.le_of_ble_eq_true rfl) ?_
  have t1 := hB.1
  have fA := CV_B hA hB
  refine sX0_act_0 ?_
  refine sX0_act_1 ?_
  refine sX0_act_3 rfl ?_
  refine sX0_act_4 ?_
  show aw g l mX0_act 136 _ _ _ Q
  refine sX0_act_136 rfl ?_
  refine sX0_act_137 rfl ?_
  refine sX0_act_138 rfl ?_
  refine jX0_act_139 (Nat.le_of_ble_eq_true rfl) (by assumption) ?_
  refine c_raiseB hB hA hx wx hb hb2 hm hn (fun h6 => ?_) (fun J1 h6 h8 o1 => ?_) (fun J1 i j h6 hp hi hj hi2 hj2 hr => ?_)
  · show aw g l mX0_act 142 _ [.int (nI 6)] _ Q
    have hv : vPow B x m ng n = (6, x) := cIf_t h6
    rw [hv] at k
    refine sX0_act_142 ?_
    refine sX0_act_144 ?_
    refine act_bad (e := e) (a := a) (f := 6) (n1 := .int 0) (n2 := .int 0) (b := b) (by decide) (by decide) (fun z hz => ?_) (k J ⟨fun _ _ _ => rfl, rfl⟩ (fun z => absurd z (show (6 : Nat) ≠ 0 by decide)))
    simp only [List.mem_cons, List.not_mem_nil, or_false] at hz
    rcases hz with rfl; exact xlk_mem rfl
  · show aw g l mX0_act 142 _ [.int (nI 8)] _ Q
    have hv : vPow B x m ng n = (8, x) := (cIf_f h6).trans (cIf_f h8)
    rw [hv] at k
    refine sX0_act_142 ?_
    refine sX0_act_144 ?_
    refine act_bad (e := e) (a := a) (f := 8) (n1 := .int 0) (n2 := .int 0) (b := b) (by decide) (by decide) (fun z hz => ?_) (k J1 ⟨fun r z1 z2 => o1 r (by omega), by rw [o1 e (by omega)]⟩ (fun z => absurd z (show (8 : Nat) ≠ 0 by decide)))
    simp only [List.mem_cons, List.not_mem_nil, or_false] at hz
    rcases hz with rfl; exact xlk_mem rfl
  · show aw g l mX0_act 142 _ [.int (nI 0)] _ Q
    have hv : vPow B x m ng n = vFin B (if m = 0 then 1 else if m % 2 = 0 then x.1 * x.1 else x.1, (if ng then x.2.2.1 else x.2.1) ^ m, (if ng then x.2.1 else x.2.2.1) ^ m, fun k => x.2.2.2 k * n) := (cIf_f h6).trans (cIf_t hp)
    rw [hv] at k
    obtain ⟨T, hT⟩ : ∃ T, T = if ng then x.2.2.1 else x.2.1 := ⟨_, rfl⟩
    obtain ⟨D, hD⟩ : ∃ D, D = if ng then x.2.1 else x.2.2.1 := ⟨_, rfl⟩
    rw [← hT, ← hD] at k hr
    rw [← hT] at hi2
    rw [← hD] at hj2
    obtain ⟨w1, w2, w3, w4, w5, w6, w7⟩ := wx
    have hD0 : 0 < D := by
      rw [hD]
      cases ng
      · exact w1
      · have : x.2.1 ≠ 0 := fun q => h6 ⟨w4.mpr q, rfl⟩
        show 0 < x.2.1; omega
    have hT0 : T = 0 → x.1 = 0 := by
      rw [hT]
      cases ng
      · exact w4.mpr
      · intro q; exact absurd q (by show ¬ x.2.2.1 = 0; omega)
    have hg : Nat.gcd T D = 1 := by
      rw [hT, hD]
      cases ng
      · exact w6
      · show Nat.gcd x.2.2.1 x.2.1 = 1; rw [Nat.gcd_comm]; exact w6
    have pr := pow_red (B := B) (m := m) (i := i) (j := j) (s := if m = 0 then 1 else if m % 2 = 0 then x.1 * x.1 else x.1) (p := fun k => x.2.2.2 k * n) hb0 hg hD0 hi hj hi2 hj2 (fun q r => sg_pow0 (hT0 q) r)
    refine sX0_act_142 ?_
    refine sX0_act_144 ?_
    refine sX0_act_156 rfl ?_
    refine nX0_act_158 (by omega) (fun _ => ?_) (fun z => absurd rfl z)
    refine act_tail hB hA hb hb2 hr (fun z => ?_) (Nat.pow_pos hD0) (fun z hz => by
      simp only [List.mem_cons, List.not_mem_nil, or_false] at hz
      rcases hz with rfl | rfl <;> exact xlk_mem rfl) (fun J2 o2 n2 => ?_)
    · have hTz : T = 0 := Nat.eq_zero_of_not_pos (fun q => absurd z (by have := Nat.pow_pos (n := i) q; omega))
      have hi0 : i ≠ 0 := fun q => by rw [q, Nat.pow_zero] at z; omega
      exact sg_pow0 (hT0 hTz) (by omega)
    · rw [pr.1]
      exact k J2 o2 (fun z => by rw [← pr.1] at z; rw [← pr.2 z]; exact n2 z)
end Act
