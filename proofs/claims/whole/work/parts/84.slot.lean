/-! ===== new objects ===== -/
theorem xn_Ts (h : xH) (k n : Nat) : xT (xnew h k n) h.1 = (k, n) := vup_s
theorem xn_T {h : xH} {k n a : Nat} (ha : a ≠ h.1) : xT (xnew h k n) a = xT h a := vup_n ha
theorem xn_Is (h : xH) (k n : Nat) : xI (xnew h k n) h.1 = fun _ => 0 := vup_s
theorem xn_I {h : xH} {k n a : Nat} (ha : a ≠ h.1) : xI (xnew h k n) a = xI h a := vup_n ha
theorem xn_P {h : xH} {k n a : Nat} (ha : a ≠ h.1) : xP (xnew h k n) a = xP h a := vup_n ha
theorem xn_Ps (h : xH) (k n : Nat) : xP (xnew h k n) h.1 = fun _ => none := vup_s
theorem xs_s {h : xH} {q k : Nat} {v : Option Nat} : xP (xsP h q k v) q k = v := by
  show (if q = q then (if k = k then v else _) else _) = v
  rw [if_pos rfl, if_pos rfl]
theorem xs_k {h : xH} {q k j : Nat} {v : Option Nat} (hj : j ≠ k) : xP (xsP h q k v) q j = xP h q j := by
  show (if q = q then (if j = k then v else _) else _) = _
  rw [if_pos rfl, if_neg hj]; rfl
theorem xs_n {h : xH} {q k a : Nat} {v : Option Nat} (ha : a ≠ q) : xP (xsP h q k v) a = xP h a := by
  funext j
  show (if a = q then (if j = k then v else _) else _) = _
  rw [if_neg ha]; rfl
/-- what lies below q is as it was -/
def gw (q : Nat) (h h' : xH) : Prop := h.1 ≤ h'.1 ∧ ∀ a, a < q → xT h' a = xT h a ∧ xP h' a = xP h a ∧ xI h' a = xI h a
theorem gw_r (q : Nat) (h : xH) : gw q h h := ⟨Nat.le_refl _, fun _ _ => ⟨rfl, rfl, rfl⟩⟩
theorem gw_t {q q' : Nat} {h h1 h2 : xH} (a : gw q h h1) (c : gw q' h1 h2) (hq : q ≤ q') : gw q h h2 := ⟨Nat.le_trans a.1 c.1, fun r hr => by
  obtain ⟨a1, a2, a3⟩ := a.2 r hr
  obtain ⟨c1, c2, c3⟩ := c.2 r (by omega)
  exact ⟨c1.trans a1, c2.trans a2, c3.trans a3⟩⟩
theorem gw_n {h : xH} {k n q : Nat} (hq : q ≤ h.1) : gw q h (xnew h k n) := ⟨Nat.le_succ _, fun a ha => ⟨xn_T (by omega), xn_P (by omega), xn_I (by omega)⟩⟩
theorem gw_p {h : xH} {k q p : Nat} {v : Option Nat} (hq : q ≤ p) : gw q h (xsP h p k v) := ⟨Nat.le_refl _, fun a ha => ⟨rfl, xs_n (by omega), rfl⟩⟩
theorem gw_i {h : xH} {k q p : Nat} {v : Int32} (hq : q ≤ p) : gw q h (xsI h p k v) := ⟨Nat.le_refl _, fun a ha => ⟨rfl, rfl, xup2_r (by omega)⟩⟩
def v00 : Vl := (0, 0, 1, fun _ => 0)
theorem vWf_00 : vWf v00 := ⟨Nat.one_pos, Nat.pow_pos (by decide), Nat.one_lt_two_pow (by decide), ⟨fun _ => rfl, fun _ => rfl⟩, Or.inr (Or.inl rfl), rfl, fun _ _ => (show ¬ (0 : Int32) < -99 ∧ ¬ (99 : Int32) < 0 by decide)⟩
section Slot
variable {g : xG} {l : Launch} {h : xH} {Q : Option Value → xH → Prop}
theorem c_init5 {q c : Nat} {f : Int32} (hf : f = 0 ∧ c = 18 ∨ f = 1 ∧ c = 128) (ht : (xT h q).1 = 5) (hq : h.1 = q + 1) (hlo : g.2.2.1 ≤ h.1) (k : ∀ h', h'.1 = q + 2 → h'.2.1 = h.2.1 + c → gw q h h' → CN h' q c → (∀ i, xI h' (q + 1) i = 0) → xI h' q = xI h q → Q none h') : ac g l mX5_init [.ref q, .int f] h Q := by
  refine ac_of (by decide) (Nat.le_of_ble_eq_true rfl) ?_
  have fin : ∀ lv0 : List (Nat × Value), (∀ z ∈ ([(0, .ref q)] : List (Nat × Value)), z ∈ lv0) → aw g l mX5_init 17 lv0 [.int (nI c), .ref q] h Q := by
    intro lv0 hlv
    refine aw_lv hlv ?_
    have hc : c < 2 ^ 31 := by rcases hf with ⟨-, e⟩ | ⟨-, e⟩ <;> omega
    have hcl : (nI c).toNatClampNeg = c := nI_clamp hc
    refine sX5_init_17 (nI_pos hc) (by rw [hcl]; rcases hf with ⟨-, e⟩ | ⟨-, e⟩ <;> omega) hlo ?_
    rw [hcl]
    refine sX5_init_19 (by rw [xn_T (by omega)]; exact ht) (sX5_init_22 (k _ ?_ rfl ?_ ⟨?_, ?_, ?_⟩ ?_ ?_))
    · show h.1 + 1 = q + 2; omega
    · exact gw_t (gw_n (by omega)) (gw_p (Nat.le_refl q)) (Nat.le_refl _)
    · show (xT (xnew h 100 c) q).1 = 5; rw [xn_T (by omega)]; exact ht
    · rw [xs_s, hq]
    · show xT (xnew h 100 c) (q + 1) = _; rw [← hq, xn_Ts]
    · intro i; show xI (xnew h 100 c) (q + 1) i = 0; rw [← hq, xn_Is]
    · show xI (xnew h 100 c) q = _; rw [xn_I (by omega)]
  refine sX5_init_0 rfl ?_
  refine sX5_init_1 (Nat.le_of_ble_eq_true rfl) ?_
  refine sX5_init_4 rfl ?_
  refine sX5_init_5 rfl ?_
  rcases hf with ⟨rfl, rfl⟩ | ⟨rfl, rfl⟩
  · refine sX5_init_6 (fun _ => ?_) (fun z => absurd rfl z)
    refine nX5_init_15 ?_
    exact fin _ (fun z hz => by simp only [List.mem_cons, List.not_mem_nil, or_false] at hz; rcases hz with rfl <;> exact xlk_mem rfl)
  · refine sX5_init_6 (fun z => absurd z (by decide)) (fun _ => ?_)
    refine nX5_init_9 ?_
    refine sX5_init_12 ?_
    exact fin _ (fun z hz => by simp only [List.mem_cons, List.not_mem_nil, or_false] at hz; rcases hz with rfl <;> exact xlk_mem rfl)
theorem CN_g {q a c : Nat} {h h' : xH} (hg : gw q h h') (ha : a + 2 ≤ q) (hN : CN h a c) : CN h' a c := by
  obtain ⟨h1, h2, h3⟩ := hN
  refine ⟨by rw [(hg.2 a (by omega)).1]; exact h1, by rw [(hg.2 a (by omega)).2.1]; exact h2, by rw [(hg.2 (a + 1) (by omega)).1]; exact h3⟩
theorem c_init9 {q : Nat} (ht : (xT h q).1 = 9) (hq : h.1 = q + 1) (hI : ∀ i, xI h q i = 0) (hlo : g.2.2.1 ≤ h.1) (k : ∀ h', h'.1 = q + 6 → h'.2.1 = h.2.1 + 48 → gw q h h' → CV h' q → VJ (xI h') q v00 → Q none h') : ac g l mX9_init [.ref q] h Q := by
  refine ac_of (by decide) (Nat.le_of_ble_eq_true rfl) ?_
  refine sX9_init_0 rfl ?_
  refine sX9_init_1 (Nat.le_of_ble_eq_true rfl) ?_
  refine sX9_init_4 rfl ?_
  refine sX9_init_5 hlo ?_
  rw [hq]
  refine sX9_init_8 rfl ?_
  refine sX9_init_9 ?_
  refine sX9_init_10 (Nat.le_of_ble_eq_true rfl) ?_
  have t1 : xT (xnew h 5 2) (q + 1) = (5, 2) := by rw [← hq, xn_Ts]
  refine c_init5 (c := 18) (Or.inl ⟨rfl, rfl⟩) (by rw [t1]) (by show h.1 + 1 = _; omega) (by show _ ≤ h.1 + 1; omega) (fun h1 e1 f1 g1 n1 z1 i1 => ?_)
  have G1 : gw (q + 1) h h1 := gw_t (gw_n (by omega)) g1 (Nat.le_refl _)
  have T1 : (xT h1 q).1 = 9 := by rw [(G1.2 q (by omega)).1]; exact ht
  have iz1 : ∀ i, xI h1 (q + 1) i = 0 := fun i => by rw [i1, ← hq, xn_Is]
  refine sX9_init_13 T1 ?_
  refine sX9_init_16 rfl ?_
  refine sX9_init_17 (show g.2.2.1 ≤ h1.1 by omega) ?_
  rw [show (xsP h1 q 1 (some (q + 1))).1 = q + 3 from e1]
  refine sX9_init_20 rfl ?_
  refine sX9_init_21 ?_
  refine sX9_init_22 (Nat.le_of_ble_eq_true rfl) ?_
  have t2 : xT (xnew (xsP h1 q 1 (some (q + 1))) 5 2) (q + 3) = (5, 2) := by
    have := xn_Ts (xsP h1 q 1 (some (q + 1))) 5 2
    rw [show (xsP h1 q 1 (some (q + 1))).1 = q + 3 from e1] at this
    exact this
  refine c_init5 (c := 18) (q := q + 3) (Or.inl ⟨rfl, rfl⟩) (by rw [t2]) (by show h1.1 + 1 = _; omega) (by show _ ≤ h1.1 + 1; omega) (fun h2 e2 f2 g2 n2 z2 i2 => ?_)
  have G2 : gw (q + 3) (xsP h1 q 1 (some (q + 1))) h2 := gw_t (gw_n (by show q + 3 ≤ h1.1; omega)) g2 (Nat.le_refl _)
  have T2 : (xT h2 q).1 = 9 := by rw [(G2.2 q (by omega)).1]; exact T1
  have P2 : xP h2 q = xP (xsP h1 q 1 (some (q + 1))) q := (G2.2 q (by omega)).2.1
  have iz2 : ∀ i, xI h2 (q + 3) i = 0 := fun i => by
    rw [i2]
    have := xn_Is (xsP h1 q 1 (some (q + 1))) 5 2
    rw [show (xsP h1 q 1 (some (q + 1))).1 = q + 3 from e1] at this
    rw [this]
  refine sX9_init_25 T2 ?_
  refine sX9_init_28 rfl ?_
  refine nX9_init_29 ?_
  refine sX9_init_31 (nI_pos (by decide)) (by decide) (show g.2.2.1 ≤ h2.1 by omega) ?_
  rw [show (nI 8).toNatClampNeg = 8 by decide, show (xsP h2 q 2 (some (q + 3))).1 = q + 5 from e2]
  generalize hh3 : xnew (xsP h2 q 2 (some (q + 3))) 100 8 = h3
  have e3 : h3.1 = q + 6 := by rw [← hh3]; show h2.1 + 1 = _; omega
  have G3 : gw (q + 5) (xsP h2 q 2 (some (q + 3))) h3 := by rw [← hh3]; exact gw_n (by show q + 5 ≤ h2.1; omega)
  have T3 : (xT h3 q).1 = 9 := by rw [(G3.2 q (by omega)).1]; exact T2
  have P3 : xP h3 q = xP (xsP h2 q 2 (some (q + 3))) q := (G3.2 q (by omega)).2.1
  have t5 : xT h3 (q + 5) = (100, 8) := by
    rw [← hh3]
    have := xn_Ts (xsP h2 q 2 (some (q + 3))) 100 8
    rw [show (xsP h2 q 2 (some (q + 3))).1 = q + 5 from e2] at this
    exact this
  have i5 : ∀ i, xI h3 (q + 5) i = 0 := fun i => by
    rw [← hh3]
    have := xn_Is (xsP h2 q 2 (some (q + 3))) 100 8
    rw [show (xsP h2 q 2 (some (q + 3))).1 = q + 5 from e2] at this
    rw [this]
  have n1' : CN h2 (q + 1) 18 := CN_g G2 (by omega) (show CN (xsP h1 q 1 (some (q + 1))) (q + 1) 18 from ⟨n1.1, by rw [xs_n (by omega)]; exact n1.2.1, n1.2.2⟩)
  have n1'' : CN h3 (q + 1) 18 := CN_g G3 (by omega) (show CN (xsP h2 q 2 (some (q + 3))) (q + 1) 18 from ⟨n1'.1, by rw [xs_n (by omega)]; exact n1'.2.1, n1'.2.2⟩)
  have n2'' : CN h3 (q + 3) 18 := CN_g G3 (by omega) (show CN (xsP h2 q 2 (some (q + 3))) (q + 3) 18 from ⟨n2.1, by rw [xs_n (by omega)]; exact n2.2.1, n2.2.2⟩)
  refine sX9_init_33 T3 ?_
  generalize hh4 : xsP h3 q 3 (some (q + 5)) = h4
  have P4 : xP h4 q 1 = some (q + 1) ∧ xP h4 q 2 = some (q + 3) ∧ xP h4 q 3 = some (q + 5) := by
    rw [← hh4]
    refine ⟨?_, ?_, xs_s⟩
    · rw [xs_k (by decide), P3, xs_k (by decide), P2, xs_s]
    · rw [xs_k (by decide), P3, xs_s]
  have cv : CV h4 q := by
    refine ⟨by rw [← hh4]; exact T3, P4, ?_, ?_, by rw [← hh4]; exact t5⟩
    · rw [← hh4]; exact ⟨n1''.1, by rw [xs_n (by omega)]; exact n1''.2.1, n1''.2.2⟩
    · rw [← hh4]; exact ⟨n2''.1, by rw [xs_n (by omega)]; exact n2''.2.1, n2''.2.2⟩
  have I4 : xI h4 = xI h3 := by rw [← hh4]; rfl
  have I3q : ∀ a, a < q + 5 → xI h3 a = xI h2 a := fun a ha => (G3.2 a ha).2.2
  have I2q : ∀ a, a < q + 3 → xI h2 a = xI h1 a := fun a ha => (G2.2 a ha).2.2
  have t4 : xT h4 (q + 3 + 1) = (100, 18) := cv.2.2.2.1.2.2
  refine sX9_init_36 rfl ?_
  refine sX9_init_37 cv.1 P4.2.1 ?_
  refine sX9_init_40 cv.2.2.2.1.1 cv.2.2.2.1.2.1 ?_
  refine nX9_init_43 ?_
  refine nX9_init_44 ?_
  refine sX9_init_45 (by rw [t4]) (by rw [t4]; exact vp_in_nI (by decide) (by decide)) ?_
  rw [show (nI 0).toNatClampNeg = 0 by decide]
  refine sX9_init_46 rfl ?_
  refine sX9_init_47 cv.1 P4.2.1 ?_
  refine sX9_init_50 ?_
  refine sX9_init_51 cv.2.2.2.1.1 (sX9_init_54 (k _ ?_ ?_ ?_ ?_ ⟨?_, ⟨0, ⟨by decide, by decide, ?_, fun i hi => absurd hi (by omega)⟩, by decide, Or.inl rfl⟩, ⟨1, ⟨by decide, by decide, ?_, fun i hi => ?_⟩, by decide, Or.inr (by decide)⟩, fun j hj => ?_⟩))
  · show h4.1 = _; rw [← hh4]; exact e3
  · show h4.2.1 = _
    rw [← hh4]
    show h3.2.1 = _
    rw [← hh3]
    show h2.2.1 + 8 = _
    have f1' : h1.2.1 = h.2.1 + 2 + 18 := f1
    have f2' : h2.2.1 = h1.2.1 + 2 + 18 := f2
    omega
  · refine gw_t (gw_t (gw_t (gw_t (gw_t (gw_t (gw_t (gw_t (gw_r q h) G1 (Nat.le_succ q)) (gw_p (p := q) (Nat.le_refl q)) ?_) G2 ?_) (gw_p (p := q) (Nat.le_refl q)) ?_) G3 ?_) (show gw q h3 h4 by rw [← hh4]; exact gw_p (Nat.le_refl q)) ?_) (gw_i (p := q + 3 + 1) (q := q) (by omega)) ?_) (gw_i (p := q + 3) (q := q) (by omega)) ?_
    all_goals omega
  · exact cv
  · show xup2 (xup2 (xI h4) (q + 3 + 1) _ _) (q + 3) 1 _ q 0 = 0
    rw [xup2_r (by omega), xup2_r (by omega), I4, I3q _ (by omega), I2q _ (by omega), (G1.2 q (by omega)).2.2]; exact hI 0
  · show xup2 (xup2 (xI h4) (q + 3 + 1) _ _) (q + 3) 1 _ (q + 1) 1 = nI 0
    rw [xup2_r (by omega), xup2_r (by omega), I4, I3q _ (by omega), I2q _ (by omega)]; exact iz1 1
  · show xup2 (xup2 (xI h4) (q + 3 + 1) _ _) (q + 3) 1 _ (q + 3) 1 = nI 1
    rw [xup2_s]; rfl
  · obtain rfl : i = 0 := by omega
    show xup2 (xup2 (xI h4) (q + 3 + 1) 0 _) (q + 3) 1 _ (q + 3 + 1) 0 = nI (yg 1 0)
    rw [xup2_r (by omega), xup2_s]; rfl
  · show xup2 (xup2 (xI h4) (q + 3 + 1) _ _) (q + 3) 1 _ (q + 5) j = 0
    rw [xup2_r (by omega), xup2_r (by omega), I4]; exact i5 j
/-- slots were added -/
def hX (R : Nat) (h h' : xH) : Prop := h.1 ≤ h'.1 ∧ (∀ a, a < h.1 → xT h' a = xT h a) ∧ (∀ a, a < h.1 → a ≠ R + 1209 → xP h' a = xP h a) ∧ ∀ i q, xP h (R + 1209) i = some q → xP h' (R + 1209) i = some q
theorem hX_r (R : Nat) (h : xH) : hX R h h := ⟨Nat.le_refl _, fun _ _ => rfl, fun _ _ _ => rfl, fun _ _ z => z⟩
theorem hX_t {R : Nat} {h h1 h2 : xH} (a : hX R h h1) (c : hX R h1 h2) : hX R h h2 := by
  have := a.1
  exact ⟨Nat.le_trans a.1 c.1, fun q hq => (c.2.1 q (by omega)).trans (a.2.1 q hq), fun q hq hn => (c.2.2.1 q (by omega) hn).trans (a.2.2.1 q hq hn), fun i q z => c.2.2.2 i q (a.2.2.2 i q z)⟩
theorem CN_x {R a c : Nat} {h h' : xH} (hx : hX R h h') (ha : a + 2 ≤ h.1) (hr : (xT h (R + 1209)).1 = 103) (hN : CN h a c) : CN h' a c := by
  obtain ⟨h1, h2, h3⟩ := hN
  refine ⟨by rw [hx.2.1 a (by omega)]; exact h1, ?_, by rw [hx.2.1 (a + 1) (by omega)]; exact h3⟩
  rw [hx.2.2.1 a (by omega) (fun e => by rw [e] at h1; omega)]; exact h2
theorem CV_x {R q : Nat} {h h' : xH} (hx : hX R h h') (ha : q + 6 ≤ h.1) (hr : (xT h (R + 1209)).1 = 103) (hV : CV h q) : CV h' q := by
  obtain ⟨h1, ⟨h2, h3, h4⟩, h5, h6, h7⟩ := hV
  have e := hx.2.2.1 q (by omega) (fun e => by rw [e] at h1; omega)
  refine ⟨by rw [hx.2.1 q (by omega)]; exact h1, ⟨by rw [e]; exact h2, by rw [e]; exact h3, by rw [e]; exact h4⟩, CN_x hx (by omega) hr h5, CN_x hx (by omega) hr h6, by rw [hx.2.1 _ (by omega)]; exact h7⟩
theorem CB_x {R e : Nat} {h h' : xH} (hx : hX R h h') (ha : e + 13 ≤ h.1) (hr : (xT h (R + 1209)).1 = 103) (hB : CB h e) : CB h' e := by
  obtain ⟨h1, ⟨p1, p2, p3, p4, p5, p6, p7⟩, ⟨n1, n2, n3, n4, n5⟩, t1, t2⟩ := hB
  have ee := hx.2.2.1 e (by omega) (fun e => by rw [e] at h1; omega)
  refine ⟨by rw [hx.2.1 e (by omega)]; exact h1, ?_, ⟨CN_x hx (by omega) hr n1, CN_x hx (by omega) hr n2, CN_x hx (by omega) hr n3, CN_x hx (by omega) hr n4, CN_x hx (by omega) hr n5⟩, by rw [hx.2.1 _ (by omega)]; exact t1, by rw [hx.2.1 _ (by omega)]; exact t2⟩
  rw [ee]
  exact ⟨p1, p2, p3, p4, p5, p6, p7⟩
/-- the slots: H the end of what was there before them -/
def nul (P : Nat → Option Nat) : Nat → Nat
  | 0 => 0
  | n + 1 => nul P n + (if P n = none then 1 else 0)
theorem nul_c {P P' : Nat → Option Nat} : ∀ {n}, (∀ j, j < n → P' j = P j) → nul P' n = nul P n
  | 0, _ => rfl
  | n + 1, h => by
    show nul P' n + (if P' n = none then 1 else 0) = nul P n + (if P n = none then 1 else 0)
    rw [nul_c (fun j hj => h j (by omega)), h n (by omega)]
theorem nul_up {P P' : Nat → Option Nat} {i : Nat} (h0 : P i = none) (h1 : P' i ≠ none) : ∀ {n}, (∀ j, j < n → j ≠ i → P' j = P j) → i < n → nul P' n + 1 = nul P n
  | 0, _, hi => by omega
  | n + 1, h, hi => by
    show nul P' n + (if P' n = none then 1 else 0) + 1 = nul P n + (if P n = none then 1 else 0)
    rcases Nat.eq_or_lt_of_le (Nat.le_of_lt_succ hi) with e | e
    · subst e
      rw [if_neg h1, if_pos h0, nul_c (fun j hj => h j (by omega) (by omega))]
    · have := nul_up h0 h1 (fun j hj hn => h j (by omega) hn) e
      rw [h n (by omega) (by omega)]
      omega
def SH (h : xH) (R H : Nat) : Prop := xT h (R + 1209) = (103, 6767) ∧ R + 1226 ≤ H ∧ H ≤ h.1 ∧ (∀ i q, i < 6767 → xP h (R + 1209) i = some q → H ≤ q ∧ q + 6 ≤ h.1 ∧ CV h q ∧ ∀ j, j < 6767 → xP h (R + 1209) j = some q → j = i) ∧ h.1 + 6 * nul (xP h (R + 1209)) 6767 ≤ H + 40602 ∧ h.2.1 + 52 * nul (xP h (R + 1209)) 6767 ≤ 7302250
theorem c_slot {R H i : Nat} {J : Nat → Nat → Int32} (hS : SH h R H) (t7 : (xT h R).1 = 7) (p3 : xP h R 3 = some (R + 1209)) (hi : i < 6767) (hlo : g.2.2.1 ≤ H) (k : ∀ h' J' q, hX R h h' → SH h' R H → (∀ r, r < h.1 → J' r = J r) → xP h' (R + 1209) i = some q → Q (some (.ref q)) (xJ h' J')) : ac g l mX7_slot [.ref R, .int (nI i)] (xJ h J) Q := by
  refine ac_of (by decide) (Nat.le_of_ble_eq_true rfl) ?_
  obtain ⟨ts, hRH, hHh, hsl, hn1, hn2⟩ := id hS
  have vin : vp_in (nI i) 6767 := vp_in_nI hi (by decide)
  have cli : (nI i).toNatClampNeg = i := nI_clamp (by omega)
  refine nX7_slot_0 ?_
  refine sX7_slot_1 rfl ?_
  refine nX7_slot_2 ?_
  refine mX7_slot_5n (Nat.le_of_ble_eq_true rfl) (by omega) (by omega) ?_
  rw [Nat.min_eq_left (by omega)]
  refine mX7_slot_8n (Nat.le_of_ble_eq_true rfl) (by omega) (by omega) ?_
  rw [Nat.max_eq_right (Nat.zero_le _)]
  refine sX7_slot_11 ?_
  have last : ∀ (h1 : xH) (J1 : Nat → Nat → Int32) (q : Nat) (lv0 : List (Nat × Value)), (xT h1 R).1 = 7 → xP h1 R 3 = some (R + 1209) → SH h1 R H → xP h1 (R + 1209) i = some q → Q (some (.ref q)) (xJ h1 J1) → (∀ z ∈ ([(0, .ref R), (2, .int (nI i))] : List (Nat × Value)), z ∈ lv0) → aw g l mX7_slot 34 lv0 [] (xJ h1 J1) Q := by
    intro h1 J1 q lv0 a1 a2 a3 a4 a5 hlv
    refine aw_lv hlv ?_
    refine sX7_slot_34 rfl ?_
    refine jX7_slot_35 (by assumption) (by assumption) ?_
    refine sX7_slot_38 rfl ?_
    refine sX7_slot_39 (by show (xT h1 _).1 = 103; rw [a3.1]) (by show vp_in _ (xT h1 _).2; rw [a3.1]; exact vin) (by show xP h1 _ _ = _; rw [cli]; exact a4) (sX7_slot_40 a5)
  refine sX7_slot_12 rfl ?_
  refine jX7_slot_13 (by assumption) (by assumption) ?_
  refine sX7_slot_16 rfl ?_
  cases e : xP h (R + 1209) i with
  | some q =>
    refine sX7_slot_17 (by show (xT h _).1 = 103; rw [ts]) (by show vp_in _ (xT h _).2; rw [ts]; exact vin) (by show xP h _ _ = _; rw [cli]; exact e) ?_
    refine sX7_slot_18 ?_
    exact last h J q _ t7 p3 hS e (k h J q (hX_r R h) hS (fun _ _ => rfl) e) (fun z hz => by simp only [List.mem_cons, List.not_mem_nil, or_false] at hz; rcases hz with rfl | rfl <;> exact xlk_mem rfl)
  | none =>
    refine sX7_slot_17N (by show (xT h _).1 = 103; rw [ts]) (by show vp_in _ (xT h _).2; rw [ts]; exact vin) (by show xP h _ _ = _; rw [cli]; exact e) ?_
    refine sX7_slot_18N ?_
    refine sX7_slot_21 rfl ?_
    refine jX7_slot_22 (by assumption) (by assumption) ?_
    refine sX7_slot_25 rfl ?_
    refine sX7_slot_26 (show g.2.2.1 ≤ h.1 by omega) ?_
    show aw g l mX7_slot 29 _ (.ref h.1 :: .int (nI i) :: .ref (R + 1209) :: []) (xnew (xJ h J) 9 4) Q
    refine sX7_slot_29 rfl ?_
    refine sX7_slot_30 (Nat.le_of_ble_eq_true rfl) ?_
    refine c_init9 (h := xnew (xJ h J) 9 4) (q := h.1) (by rw [show xT (xnew (xJ h J) 9 4) h.1 = (9, 4) from xn_Ts (xJ h J) 9 4]) rfl (fun i => by rw [show xI (xnew (xJ h J) 9 4) h.1 = fun _ => 0 from xn_Is (xJ h J) 9 4]) (show g.2.2.1 ≤ h.1 + 1 by omega) (fun h1 e1 f1 g1 cv vj => ?_)
    have G : ∀ a, a < h.1 → xT h1 a = xT h a ∧ xP h1 a = xP h a ∧ xI h1 a = J a := fun a ha => by
      obtain ⟨z1, z2, z3⟩ := g1.2 a ha
      exact ⟨z1.trans (xn_T (show a ≠ (xJ h J).1 from Nat.ne_of_lt ha)), z2.trans (xn_P (show a ≠ (xJ h J).1 from Nat.ne_of_lt ha)), z3.trans (xn_I (show a ≠ (xJ h J).1 from Nat.ne_of_lt ha))⟩
    have ts1 : xT h1 (R + 1209) = (103, 6767) := by rw [(G _ (by omega)).1]; exact ts
    refine sX7_slot_33 (by rw [ts1]) cv.1 (by rw [ts1]; exact vin) ?_
    rw [cli]
    generalize hh2 : xsP h1 (R + 1209) i (some h.1) = h2
    have eI : h2 = xJ h2 (xI h2) := rfl
    have hx : hX R h h2 := by
      rw [← hh2]
      refine ⟨show h.1 ≤ h1.1 by omega, fun a ha => (G a ha).1, fun a ha hn => ?_, fun j q z => ?_⟩
      · rw [xs_n hn]; exact (G a ha).2.1
      · by_cases hj : j = i
        · rw [hj, e] at z; cases z
        · rw [xs_k hj, (G _ (by omega)).2.1]; exact z
    have pn : xP h2 (R + 1209) i = some h.1 := by rw [← hh2]; exact xs_s
    have po : ∀ j, j ≠ i → xP h2 (R + 1209) j = xP h (R + 1209) j := fun j hj => by rw [← hh2, xs_k hj, (G _ (by omega)).2.1]
    have cv2 : CV h2 h.1 := by
      have ne := CV_tags cv
      have hne : ∀ d, d < 6 → h.1 + d ≠ R + 1209 := fun d _ => by omega
      rw [← hh2]
      obtain ⟨c1, c2, c3, c4, c5⟩ := cv
      refine ⟨c1, ?_, ⟨c3.1, ?_, c3.2.2⟩, ⟨c4.1, ?_, c4.2.2⟩, c5⟩
      · rw [xs_n (by omega)]; exact c2
      · rw [xs_n (by omega)]; exact c3.2.1
      · rw [xs_n (by omega)]; exact c4.2.1
    have e2 : h2.1 = h.1 + 6 := by rw [← hh2]; exact e1
    have e3 : h2.2.1 = h.2.1 + 4 + 48 := by rw [← hh2]; exact f1
    have e4 := nul_up (P := xP h (R + 1209)) (P' := xP h2 (R + 1209)) e (by rw [pn]; intro z; cases z) (n := 6767) (fun j _ hj => po j hj) hi
    have sh : SH h2 R H := by
      refine ⟨by rw [← hh2]; exact ts1, hRH, by omega, fun j q hj z => ?_, by omega, by omega⟩
      by_cases hji : j = i
      · subst hji
        rw [pn] at z
        have := Option.some.inj z
        subst this
        refine ⟨hHh, by omega, cv2, fun j' hj' z' => ?_⟩
        by_cases hj2 : j' = j
        · exact hj2
        · rw [po j' hj2] at z'
          have := (hsl j' _ hj' z').2.1
          omega
      · rw [po j hji] at z
        obtain ⟨s1, s2, s3, s4⟩ := hsl j q hj z
        refine ⟨s1, by omega, CV_x hx s2 (by rw [ts]) s3, fun j' hj' z' => ?_⟩
        by_cases hj2 : j' = i
        · rw [hj2, pn] at z'
          have := Option.some.inj z'
          omega
        · rw [po j' hj2] at z'
          exact s4 j' hj' z'
    rw [eI]
    refine last h2 (xI h2) h.1 _ (by rw [hx.2.1 R (by omega)]; exact t7) (by rw [hx.2.2.1 R (by omega) (by omega)]; exact p3) sh pn (k h2 (xI h2) h.1 hx sh (fun r hr => ?_) pn) (fun z hz => by simp only [List.mem_cons, List.not_mem_nil, or_false] at hz; rcases hz with rfl | rfl <;> exact xlk_mem rfl)
    rw [← hh2]; exact (G r hr).2.2
end Slot
