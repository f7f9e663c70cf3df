/-! ===== constructors ===== -/
def kp (o : Nat) (h h' : xH) : Prop := h.1 ≤ h'.1 ∧ ∀ a, a < h.1 → xT h' a = xT h a ∧ (a ≠ o → xP h' a = xP h a ∧ xI h' a = xI h a)
theorem kp_r (o : Nat) (h : xH) : kp o h h := ⟨Nat.le_refl _, fun _ _ => ⟨rfl, fun _ => ⟨rfl, rfl⟩⟩⟩
theorem kp_t {o : Nat} {h h1 h2 : xH} (a : kp o h h1) (c : kp o h1 h2) : kp o h h2 := ⟨Nat.le_trans a.1 c.1, fun r hr => by
  obtain ⟨a1, a2⟩ := a.2 r hr
  obtain ⟨c1, c2⟩ := c.2 r (Nat.lt_of_lt_of_le hr a.1)
  exact ⟨c1.trans a1, fun n => ⟨(c2 n).1.trans (a2 n).1, (c2 n).2.trans (a2 n).2⟩⟩⟩
def rg (lo hi : Nat) (h h' : xH) : Prop := ∀ a, lo ≤ a → a < hi → xT h' a = xT h a ∧ xP h' a = xP h a ∧ xI h' a = xI h a
theorem rg_kp {o lo hi : Nat} {h h' : xH} (k : kp o h h') (h1 : o < lo) (h2 : hi ≤ h.1) : rg lo hi h h' := fun a a1 a2 => by
  obtain ⟨c1, c2⟩ := k.2 a (by omega)
  obtain ⟨c3, c4⟩ := c2 (by omega)
  exact ⟨c1, c3, c4⟩
theorem rg_s {lo hi lo' hi' : Nat} {h h' : xH} (r : rg lo hi h h') (h1 : lo ≤ lo') (h2 : hi' ≤ hi) : rg lo' hi' h h' := fun a a1 a2 => r a (by omega) (by omega)
theorem gw_kp {o : Nat} {h h' : xH} (k : kp o h h') (ho : o < h.1) : gw o h h' := ⟨k.1, fun a ha => by
  obtain ⟨c1, c2⟩ := k.2 a (by omega)
  obtain ⟨c3, c4⟩ := c2 (by omega)
  exact ⟨c1, c3, c4⟩⟩
theorem CN_r {a c : Nat} {h h' : xH} (r : rg a (a + 2) h h') (hN : CN h a c) : CN h' a c := by
  obtain ⟨h1, h2, h3⟩ := hN
  exact ⟨by rw [(r a (by omega) (by omega)).1]; exact h1, by rw [(r a (by omega) (by omega)).2.1]; exact h2, by rw [(r (a + 1) (by omega) (by omega)).1]; exact h3⟩
theorem CV_r {q : Nat} {h h' : xH} (r : rg q (q + 6) h h') (hV : CV h q) : CV h' q := by
  obtain ⟨h1, h2, h3, h4, h5⟩ := hV
  exact ⟨by rw [(r q (by omega) (by omega)).1]; exact h1, by rw [(r q (by omega) (by omega)).2.1]; exact h2, CN_r (rg_s r (by omega) (by omega)) h3, CN_r (rg_s r (by omega) (by omega)) h4, by rw [(r (q + 5) (by omega) (by omega)).1]; exact h5⟩
theorem CE_r {d : Nat} {h h' : xH} (r : rg d (d + 6) h h') (hV : CE h d) : CE h' d := by
  obtain ⟨h1, h2, h3, h4, h5⟩ := hV
  exact ⟨by rw [(r d (by omega) (by omega)).1]; exact h1, by rw [(r d (by omega) (by omega)).2.1]; exact h2, CN_r (rg_s r (by omega) (by omega)) h3, CN_r (rg_s r (by omega) (by omega)) h4, by rw [(r (d + 5) (by omega) (by omega)).1]; exact h5⟩
theorem CB_r {e : Nat} {h h' : xH} (r : rg e (e + 13) h h') (hB : CB h e) : CB h' e := by
  obtain ⟨h1, h2, ⟨n1, n2, n3, n4, n5⟩, t1, t2⟩ := hB
  exact ⟨by rw [(r e (by omega) (by omega)).1]; exact h1, by rw [(r e (by omega) (by omega)).2.1]; exact h2, ⟨CN_r (rg_s r (by omega) (by omega)) n1, CN_r (rg_s r (by omega) (by omega)) n2, CN_r (rg_s r (by omega) (by omega)) n3, CN_r (rg_s r (by omega) (by omega)) n4, CN_r (rg_s r (by omega) (by omega)) n5⟩, by rw [(r (e + 11) (by omega) (by omega)).1]; exact t1, by rw [(r (e + 12) (by omega) (by omega)).1]; exact t2⟩
theorem CLd_r {L : Nat} {h h' : xH} (r : rg L (L + 604) h h') (hL : CLd h L) : CLd h' L := CLd_e (fun a a1 a2 => (r a a1 a2).1) (fun a a1 a2 => (r a a1 a2).2.1) hL
/-- Code at d -/
def CCd (h : xH) (d : Nat) : Prop := (xT h d).1 = 2 ∧ (xP h d 0 = some (d + 1) ∧ xP h d 1 = some (d + 2) ∧ xP h d 2 = some (d + 3)) ∧ xT h (d + 1) = (100, 13668) ∧ xT h (d + 2) = (100, 13668) ∧ xT h (d + 3) = (100, 13668)
theorem CCd_r {d : Nat} {h h' : xH} (r : rg d (d + 4) h h') (hL : CCd h d) : CCd h' d := by
  obtain ⟨h1, h2, t1, t2, t3⟩ := hL
  exact ⟨by rw [(r d (by omega) (by omega)).1]; exact h1, by rw [(r d (by omega) (by omega)).2.1]; exact h2, by rw [(r (d + 1) (by omega) (by omega)).1]; exact t1, by rw [(r (d + 2) (by omega) (by omega)).1]; exact t2, by rw [(r (d + 3) (by omega) (by omega)).1]; exact t3⟩
theorem CW_r {d : Nat} {h h' : xH} (r : rg d (d + 13) h h') (hL : CW h d) : CW h' d := by
  obtain ⟨h1, h2, t1, ⟨t2, t3, t4, t5, t6, t7, t8⟩, h3, h4, u1, u2, u3⟩ := hL
  exact ⟨by rw [(r d (by omega) (by omega)).1]; exact h1, by rw [(r d (by omega) (by omega)).2.1]; exact h2, by rw [(r (d + 1) (by omega) (by omega)).1]; exact t1, ⟨by rw [(r (d + 6) (by omega) (by omega)).1]; exact t2, by rw [(r (d + 7) (by omega) (by omega)).1]; exact t3, by rw [(r (d + 8) (by omega) (by omega)).1]; exact t4, by rw [(r (d + 9) (by omega) (by omega)).1]; exact t5, by rw [(r (d + 10) (by omega) (by omega)).1]; exact t6, by rw [(r (d + 11) (by omega) (by omega)).1]; exact t7, by rw [(r (d + 12) (by omega) (by omega)).1]; exact t8⟩, by rw [(r (d + 2) (by omega) (by omega)).1]; exact h3, by rw [(r (d + 2) (by omega) (by omega)).2.1]; exact h4, by rw [(r (d + 3) (by omega) (by omega)).1]; exact u1, by rw [(r (d + 4) (by omega) (by omega)).1]; exact u2, by rw [(r (d + 5) (by omega) (by omega)).1]; exact u3⟩
/-- Tokens at t, Parser at p -/
def CTk (h : xH) (t : Nat) : Prop := (xT h t).1 = 8
theorem CTk_r {d : Nat} {h h' : xH} (r : rg d (d + 2) h h') (hL : CTk h d) : CTk h' d := by
  show (xT h' d).1 = 8
  rw [(r d (by omega) (by omega)).1]; exact hL
def CPr (h : xH) (p : Nat) : Prop := (xT h p).1 = 6 ∧ (xP h p 0 = some (p + 1) ∧ xP h p 1 = some (p + 3) ∧ xP h p 2 = some (p + 4)) ∧ CTk h (p + 1) ∧ xT h (p + 3) = (100, 88) ∧ xT h (p + 4) = (100, 88)
theorem CPr_r {d : Nat} {h h' : xH} (r : rg d (d + 5) h h') (hL : CPr h d) : CPr h' d := by
  obtain ⟨h1, h2, h3, t1, t2⟩ := hL
  exact ⟨by rw [(r d (by omega) (by omega)).1]; exact h1, by rw [(r d (by omega) (by omega)).2.1]; exact h2, CTk_r (rg_s r (by omega) (by omega)) h3, by rw [(r (d + 3) (by omega) (by omega)).1]; exact t1, by rw [(r (d + 4) (by omega) (by omega)).1]; exact t2⟩
def CRn (h : xH) (R : Nat) : Prop := CR h R (R + 1) (R + 605) ∧ xT h (R + 1209) = (103, 6767) ∧ ∀ i, xP h (R + 1209) i = none
theorem CRn_r {R : Nat} {h h' : xH} (r : rg R (R + 1226) h h') (hL : CRn h R) : CRn h' R := by
  obtain ⟨⟨h1, h2, ⟨t1, t2, t3⟩, b, l1, l2, d⟩, t, n⟩ := hL
  exact ⟨⟨by rw [(r R (by omega) (by omega)).1]; exact h1, by rw [(r R (by omega) (by omega)).2.1]; exact h2, ⟨by rw [(r (R + 1210) (by omega) (by omega)).1]; exact t1, by rw [(r (R + 1211) (by omega) (by omega)).1]; exact t2, by rw [(r (R + 1212) (by omega) (by omega)).1]; exact t3⟩, CB_r (rg_s r (by omega) (by omega)) b, CLd_r (rg_s r (by omega) (by omega)) l1, CLd_r (rg_s r (by omega) (by omega)) l2, d⟩, by rw [(r (R + 1209) (by omega) (by omega)).1]; exact t, fun i => by rw [(r (R + 1209) (by omega) (by omega)).2.1]; exact n i⟩
theorem nwA {o a a' kd len f ci : Nat} {hi h' : xH} (E : hi.1 = a) (ho : o < a) (ht : (xT hi o).1 = ci) (hh : h' = xsP (xnew hi kd len) o f (some a)) (ea : a + 1 = a') : h'.1 = a' ∧ h'.2.1 = hi.2.1 + len ∧ kp o hi h' ∧ xT h' a = (kd, len) ∧ (∀ i, xI h' a i = 0) ∧ (∀ j, xP h' a j = none) ∧ (∀ j, xP h' o j = if j = f then some a else xP hi o j) ∧ xI h' o = xI hi o ∧ (xT h' o).1 = ci := by
  subst hh
  refine ⟨by show hi.1 + 1 = _; omega, rfl, ⟨Nat.le_succ _, fun r hr => ⟨xn_T (by omega), fun hn => ⟨?_, xn_I (h := hi) (k := kd) (n := len) (by omega)⟩⟩⟩, ?_, fun i => ?_, fun j => ?_, fun j => ?_, xn_I (h := hi) (k := kd) (n := len) (by omega), ?_⟩
  · rw [xs_n hn, xn_P (by omega)]
  · show xT (xnew hi kd len) a = _; rw [← E, xn_Ts]
  · show xI (xnew hi kd len) a i = _; rw [← E, xn_Is]
  · rw [xs_n (by omega), ← E, xn_Ps]
  · by_cases c : j = f
    · rw [if_pos c, c, xs_s]
    · rw [if_neg c, xs_k c, xn_P (by omega)]
  · show (xT (xnew hi kd len) o).1 = ci; rw [xn_T (by omega)]; exact ht
theorem nwO {o a a' f ci kd n : Nat} {hi h1 h' : xH} (E : hi.1 = a) (ho : o < a) (ht : (xT hi o).1 = ci) (e1 : h1.1 = a') (G : gw a (xnew hi kd n) h1) (hh : h' = xsP h1 o f (some a)) : h'.1 = a' ∧ h'.2.1 = h1.2.1 ∧ kp o hi h' ∧ rg a a' h1 h' ∧ (∀ j, xP h' o j = if j = f then some a else xP hi o j) ∧ xI h' o = xI hi o ∧ (xT h' o).1 = ci := by
  subst hh
  have ge := G.1
  have g0 : (xnew hi kd n).1 = hi.1 + 1 := rfl
  refine ⟨e1, rfl, ⟨by show hi.1 ≤ h1.1; omega, fun r hr => ?_⟩, fun r r1 r2 => ⟨rfl, xs_n (by omega), rfl⟩, fun j => ?_, ?_, ?_⟩
  · obtain ⟨g1, g2, g3⟩ := G.2 r (by omega)
    refine ⟨by show xT h1 r = _; rw [g1, xn_T (by omega)], fun hn => ⟨?_, by show xI h1 r = _; rw [g3, xn_I (by omega)]⟩⟩
    rw [xs_n hn, g2, xn_P (by omega)]
  · by_cases c : j = f
    · rw [if_pos c, c, xs_s]
    · rw [if_neg c, xs_k c, (G.2 o ho).2.1, xn_P (by omega)]
  · show xI h1 o = _; rw [(G.2 o ho).2.2, xn_I (by omega)]
  · show (xT h1 o).1 = _; rw [(G.2 o ho).1, xn_T (by omega)]; exact ht
section Ctor
variable {g : xG} {l : Launch} {h : xH} {Q : Option Value → xH → Prop}
theorem c_init2 {q : Nat} (ht : (xT h q).1 = 2) (hq : h.1 = q + 1) (hI : ∀ i, xI h q i = 0) (hlo : g.2.2.1 ≤ h.1) (k : ∀ h', h'.1 = q + 4 → h'.2.1 = h.2.1 + 41004 → gw q h h' → CCd h' q → Q none h') : ac g l mX2_init [.ref q] h Q := by
  refine ac_of (by decide) (Nat.le_of_ble_eq_true rfl) ?_
  refine sX2_init_0 rfl ?_
  refine sX2_init_1 (Nat.le_of_ble_eq_true rfl) ?_
  have E0 : h.1 = q + 1 := hq
  have T0 : (xT h q).1 = 2 := ht
  refine sX2_init_4 rfl ?_
  refine nX2_init_5 ?_
  refine sX2_init_8 (nI_pos (by decide)) (by decide) (show g.2.2.1 ≤ h.1 by omega) ?_
  rw [show (nI 13668).toNatClampNeg = 13668 by decide, E0]
  refine sX2_init_10 (by rw [xn_T (by omega)]; exact T0) ?_
  obtain ⟨h1, hh1⟩ : ∃ h', h' = xsP (xnew h 100 13668) q 0 (some (q + 1)) := ⟨_, rfl⟩
  rw [← hh1]
  obtain ⟨E1, S1, K1, A1, Z1, N1, F1, I1, T1⟩ := nwA (a' := q + 2) E0 (by omega) T0 hh1 rfl
  refine sX2_init_13 rfl ?_
  refine nX2_init_14 ?_
  refine sX2_init_17 (nI_pos (by decide)) (by decide) (show g.2.2.1 ≤ h1.1 by omega) ?_
  rw [show (nI 13668).toNatClampNeg = 13668 by decide, E1]
  refine sX2_init_19 (by rw [xn_T (by omega)]; exact T1) ?_
  obtain ⟨h2, hh2⟩ : ∃ h', h' = xsP (xnew h1 100 13668) q 1 (some (q + 2)) := ⟨_, rfl⟩
  rw [← hh2]
  obtain ⟨E2, S2, K2, A2, Z2, N2, F2, I2, T2⟩ := nwA (a' := q + 3) E1 (by omega) T1 hh2 rfl
  refine sX2_init_22 rfl ?_
  refine nX2_init_23 ?_
  refine sX2_init_26 (nI_pos (by decide)) (by decide) (show g.2.2.1 ≤ h2.1 by omega) ?_
  rw [show (nI 13668).toNatClampNeg = 13668 by decide, E2]
  refine sX2_init_28 (by rw [xn_T (by omega)]; exact T2) ?_
  obtain ⟨h3, hh3⟩ : ∃ h', h' = xsP (xnew h2 100 13668) q 2 (some (q + 3)) := ⟨_, rfl⟩
  rw [← hh3]
  obtain ⟨E3, S3, K3, A3, Z3, N3, F3, I3, T3⟩ := nwA (a' := q + 4) E2 (by omega) T2 hh3 rfl
  have U3 := kp_r q h3
  have U2 := kp_t K3 U3
  have U1 := kp_t K2 U2
  have U0 := kp_t K1 U1
  exact sX2_init_31 (k _ E3 (by omega) (gw_kp U0 (by omega)) ⟨T3, ⟨by rw [F3, if_neg (by decide), F2, if_neg (by decide), F1, if_pos rfl], by rw [F3, if_neg (by decide), F2, if_pos rfl], by rw [F3, if_pos rfl]⟩, by rw [(U1.2 _ (by omega)).1]; exact A1, by rw [(U2.2 _ (by omega)).1]; exact A2, by rw [(U3.2 _ (by omega)).1]; exact A3⟩)
theorem c_init1 {q : Nat} (ht : (xT h q).1 = 1) (hq : h.1 = q + 1) (hI : ∀ i, xI h q i = 0) (hlo : g.2.2.1 ≤ h.1) (k : ∀ h', h'.1 = q + 13 → h'.2.1 = h.2.1 + 51948 → gw q h h' → CW h' q → (∀ i, i < 11 → xI h' q i = 0) → (∀ i, xI h' (q + 1) i = 0) → Q none h') : ac g l mX1_init [.ref q] h Q := by
  refine ac_of (by decide) (Nat.le_of_ble_eq_true rfl) ?_
  refine sX1_init_0 rfl ?_
  refine sX1_init_1 (Nat.le_of_ble_eq_true rfl) ?_
  have E0 : h.1 = q + 1 := hq
  have T0 : (xT h q).1 = 1 := ht
  refine sX1_init_4 rfl ?_
  refine nX1_init_5 ?_
  refine sX1_init_8 (nI_pos (by decide)) (by decide) (show g.2.2.1 ≤ h.1 by omega) ?_
  rw [show (nI 10240).toNatClampNeg = 10240 by decide, E0]
  refine sX1_init_10 (by rw [xn_T (by omega)]; exact T0) ?_
  obtain ⟨h1, hh1⟩ : ∃ h', h' = xsP (xnew h 101 10240) q 0 (some (q + 1)) := ⟨_, rfl⟩
  rw [← hh1]
  obtain ⟨E1, S1, K1, A1, Z1, N1, F1, I1, T1⟩ := nwA (a' := q + 2) E0 (by omega) T0 hh1 rfl
  refine sX1_init_13 rfl ?_
  refine sX1_init_14 (show g.2.2.1 ≤ h1.1 by omega) ?_
  rw [E1]
  refine sX1_init_17 rfl ?_
  refine sX1_init_18 (Nat.le_of_ble_eq_true rfl) ?_
  refine c_init2 (q := q + 2) (by rw [← E1, xn_Ts]) (by show h1.1 + 1 = _; omega) (fun i => by rw [← E1, xn_Is]) (by show _ ≤ h1.1 + 1; omega) (fun j2 e2 f2 G2 c2 => ?_)
  have f2' : j2.2.1 = h1.2.1 + 4 + 41004 := f2
  refine sX1_init_21 (by rw [(G2.2 q (by omega)).1, xn_T (by omega)]; exact T1) ?_
  obtain ⟨h2, hh2⟩ : ∃ h', h' = xsP j2 q 1 (some (q + 2)) := ⟨_, rfl⟩
  rw [← hh2]
  obtain ⟨E2, S2, K2, R2, F2, I2, T2⟩ := nwO (a' := q + 6) E1 (by omega) T1 e2 G2 hh2
  have C2 := CCd_r (rg_s R2 (by omega) (by omega)) c2
  refine sX1_init_24 rfl ?_
  refine nX1_init_25 ?_
  refine sX1_init_27 (nI_pos (by decide)) (by decide) (show g.2.2.1 ≤ h2.1 by omega) ?_
  rw [show (nI 100).toNatClampNeg = 100 by decide, E2]
  refine sX1_init_29 (by rw [xn_T (by omega)]; exact T2) ?_
  obtain ⟨h3, hh3⟩ : ∃ h', h' = xsP (xnew h2 100 100) q 2 (some (q + 6)) := ⟨_, rfl⟩
  rw [← hh3]
  obtain ⟨E3, S3, K3, A3, Z3, N3, F3, I3, T3⟩ := nwA (a' := q + 7) E2 (by omega) T2 hh3 rfl
  refine sX1_init_32 rfl ?_
  refine nX1_init_33 ?_
  refine sX1_init_35 (nI_pos (by decide)) (by decide) (show g.2.2.1 ≤ h3.1 by omega) ?_
  rw [show (nI 100).toNatClampNeg = 100 by decide, E3]
  refine sX1_init_37 (by rw [xn_T (by omega)]; exact T3) ?_
  obtain ⟨h4, hh4⟩ : ∃ h', h' = xsP (xnew h3 100 100) q 3 (some (q + 7)) := ⟨_, rfl⟩
  rw [← hh4]
  obtain ⟨E4, S4, K4, A4, Z4, N4, F4, I4, T4⟩ := nwA (a' := q + 8) E3 (by omega) T3 hh4 rfl
  refine sX1_init_40 rfl ?_
  refine nX1_init_41 ?_
  refine sX1_init_43 (nI_pos (by decide)) (by decide) (show g.2.2.1 ≤ h4.1 by omega) ?_
  rw [show (nI 100).toNatClampNeg = 100 by decide, E4]
  refine sX1_init_45 (by rw [xn_T (by omega)]; exact T4) ?_
  obtain ⟨h5, hh5⟩ : ∃ h', h' = xsP (xnew h4 100 100) q 4 (some (q + 8)) := ⟨_, rfl⟩
  rw [← hh5]
  obtain ⟨E5, S5, K5, A5, Z5, N5, F5, I5, T5⟩ := nwA (a' := q + 9) E4 (by omega) T4 hh5 rfl
  refine sX1_init_48 rfl ?_
  refine nX1_init_49 ?_
  refine sX1_init_51 (nI_pos (by decide)) (by decide) (show g.2.2.1 ≤ h5.1 by omega) ?_
  rw [show (nI 100).toNatClampNeg = 100 by decide, E5]
  refine sX1_init_53 (by rw [xn_T (by omega)]; exact T5) ?_
  obtain ⟨h6, hh6⟩ : ∃ h', h' = xsP (xnew h5 100 100) q 5 (some (q + 9)) := ⟨_, rfl⟩
  rw [← hh6]
  obtain ⟨E6, S6, K6, A6, Z6, N6, F6, I6, T6⟩ := nwA (a' := q + 10) E5 (by omega) T5 hh6 rfl
  refine sX1_init_56 rfl ?_
  refine nX1_init_57 ?_
  refine sX1_init_59 (nI_pos (by decide)) (by decide) (show g.2.2.1 ≤ h6.1 by omega) ?_
  rw [show (nI 100).toNatClampNeg = 100 by decide, E6]
  refine sX1_init_61 (by rw [xn_T (by omega)]; exact T6) ?_
  obtain ⟨h7, hh7⟩ : ∃ h', h' = xsP (xnew h6 100 100) q 6 (some (q + 10)) := ⟨_, rfl⟩
  rw [← hh7]
  obtain ⟨E7, S7, K7, A7, Z7, N7, F7, I7, T7⟩ := nwA (a' := q + 11) E6 (by omega) T6 hh7 rfl
  refine sX1_init_64 rfl ?_
  refine nX1_init_65 ?_
  refine sX1_init_67 (nI_pos (by decide)) (by decide) (show g.2.2.1 ≤ h7.1 by omega) ?_
  rw [show (nI 100).toNatClampNeg = 100 by decide, E7]
  refine sX1_init_69 (by rw [xn_T (by omega)]; exact T7) ?_
  obtain ⟨h8, hh8⟩ : ∃ h', h' = xsP (xnew h7 100 100) q 7 (some (q + 11)) := ⟨_, rfl⟩
  rw [← hh8]
  obtain ⟨E8, S8, K8, A8, Z8, N8, F8, I8, T8⟩ := nwA (a' := q + 12) E7 (by omega) T7 hh8 rfl
  refine sX1_init_72 rfl ?_
  refine nX1_init_73 ?_
  refine sX1_init_75 (nI_pos (by decide)) (by decide) (show g.2.2.1 ≤ h8.1 by omega) ?_
  rw [show (nI 100).toNatClampNeg = 100 by decide, E8]
  refine sX1_init_77 (by rw [xn_T (by omega)]; exact T8) ?_
  obtain ⟨h9, hh9⟩ : ∃ h', h' = xsP (xnew h8 100 100) q 8 (some (q + 12)) := ⟨_, rfl⟩
  rw [← hh9]
  obtain ⟨E9, S9, K9, A9, Z9, N9, F9, I9, T9⟩ := nwA (a' := q + 13) E8 (by omega) T8 hh9 rfl
  have U9 := kp_r q h9
  have U8 := kp_t K9 U9
  have U7 := kp_t K8 U8
  have U6 := kp_t K7 U7
  have U5 := kp_t K6 U6
  have U4 := kp_t K5 U5
  have U3 := kp_t K4 U4
  have U2 := kp_t K3 U3
  have U1 := kp_t K2 U2
  have U0 := kp_t K1 U1
  refine sX1_init_80 rfl ?_
  refine sX1_init_81 ?_
  refine sX1_init_82 T9 ?_
  refine sX1_init_85 rfl ?_
  refine sX1_init_86 ?_
  refine sX1_init_87 T9 (sX1_init_90 (k _ E9 (by show h9.2.1 = _; omega) ?_ ?_ (fun i hi => ?_) (fun i => ?_)))
  · exact gw_t (gw_t (gw_kp U0 (by omega)) (gw_i (p := q) (Nat.le_refl q)) (Nat.le_refl _)) (gw_i (p := q) (Nat.le_refl q)) (Nat.le_refl _)
  · obtain ⟨d1, ⟨d2, d3, d4⟩, d5, d6, d7⟩ := CCd_r (rg_kp U2 (by omega) (by omega)) C2
    show CW h9 q
    exact ⟨T9, ⟨by rw [F9, if_neg (by decide), F8, if_neg (by decide), F7, if_neg (by decide), F6, if_neg (by decide), F5, if_neg (by decide), F4, if_neg (by decide), F3, if_neg (by decide), F2, if_neg (by decide), F1, if_pos rfl], by rw [F9, if_neg (by decide), F8, if_neg (by decide), F7, if_neg (by decide), F6, if_neg (by decide), F5, if_neg (by decide), F4, if_neg (by decide), F3, if_neg (by decide), F2, if_pos rfl], by rw [F9, if_neg (by decide), F8, if_neg (by decide), F7, if_neg (by decide), F6, if_neg (by decide), F5, if_neg (by decide), F4, if_neg (by decide), F3, if_pos rfl], by rw [F9, if_neg (by decide), F8, if_neg (by decide), F7, if_neg (by decide), F6, if_neg (by decide), F5, if_neg (by decide), F4, if_pos rfl], by rw [F9, if_neg (by decide), F8, if_neg (by decide), F7, if_neg (by decide), F6, if_neg (by decide), F5, if_pos rfl], by rw [F9, if_neg (by decide), F8, if_neg (by decide), F7, if_neg (by decide), F6, if_pos rfl], by rw [F9, if_neg (by decide), F8, if_neg (by decide), F7, if_pos rfl], by rw [F9, if_neg (by decide), F8, if_pos rfl], by rw [F9, if_pos rfl]⟩, by rw [(U1.2 _ (by omega)).1]; exact A1, ⟨by rw [(U3.2 _ (by omega)).1]; exact A3, by rw [(U4.2 _ (by omega)).1]; exact A4, by rw [(U5.2 _ (by omega)).1]; exact A5, by rw [(U6.2 _ (by omega)).1]; exact A6, by rw [(U7.2 _ (by omega)).1]; exact A7, by rw [(U8.2 _ (by omega)).1]; exact A8, by rw [(U9.2 _ (by omega)).1]; exact A9⟩, d1, ⟨d2, d3, d4⟩, d5, d6, d7⟩
  · show xup2 (xup2 (xI h9) q 11 _) q 12 _ q i = 0
    rw [xup2_n (by omega), xup2_n (by omega), I9, I8, I7, I6, I5, I4, I3, I2, I1]; exact hI i
  · show xup2 (xup2 (xI h9) q 11 _) q 12 _ (q + 1) i = 0
    rw [xup2_r (by omega), xup2_r (by omega), ((U1.2 (q + 1) (by omega)).2 (by omega)).2]; exact Z1 i
theorem c_init8 {q : Nat} (ht : (xT h q).1 = 8) (hq : h.1 = q + 1) (hI : ∀ i, xI h q i = 0) (hlo : g.2.2.1 ≤ h.1) (k : ∀ h', h'.1 = q + 2 → h'.2.1 = h.2.1 + 0 → gw q h h' → CTk h' q → Q none h') : ac g l mX8_init [.ref q] h Q := by
  refine ac_of (by decide) (Nat.le_of_ble_eq_true rfl) ?_
  refine sX8_init_0 rfl ?_
  refine sX8_init_1 (Nat.le_of_ble_eq_true rfl) ?_
  have E0 : h.1 = q + 1 := hq
  have T0 : (xT h q).1 = 8 := ht
  refine sX8_init_4 rfl ?_
  refine nX8_init_5 ?_
  refine sX8_init_6 (nI_pos (by decide)) (by decide) (show g.2.2.1 ≤ h.1 by omega) ?_
  rw [show (nI 0).toNatClampNeg = 0 by decide, E0]
  refine sX8_init_8 (by rw [xn_T (by omega)]; exact T0) ?_
  obtain ⟨h1, hh1⟩ : ∃ h', h' = xsP (xnew h 101 0) q 0 (some (q + 1)) := ⟨_, rfl⟩
  rw [← hh1]
  obtain ⟨E1, S1, K1, A1, Z1, N1, F1, I1, T1⟩ := nwA (a' := q + 2) E0 (by omega) T0 hh1 rfl
  have U1 := kp_r q h1
  have U0 := kp_t K1 U1
  exact sX8_init_11 (k _ E1 (by omega) (gw_kp U0 (by omega)) T1)
theorem c_init6 {q : Nat} (ht : (xT h q).1 = 6) (hq : h.1 = q + 1) (hI : ∀ i, xI h q i = 0) (hlo : g.2.2.1 ≤ h.1) (k : ∀ h', h'.1 = q + 5 → h'.2.1 = h.2.1 + 182 → gw q h h' → CPr h' q → Q none h') : ac g l mX6_init [.ref q] h Q := by
  refine ac_of (by decide) (Nat.le_of_ble_eq_true rfl) ?_
  refine sX6_init_0 rfl ?_
  refine sX6_init_1 (Nat.le_of_ble_eq_true rfl) ?_
  have E0 : h.1 = q + 1 := hq
  have T0 : (xT h q).1 = 6 := ht
  refine sX6_init_4 rfl ?_
  refine sX6_init_5 (show g.2.2.1 ≤ h.1 by omega) ?_
  rw [E0]
  refine sX6_init_8 rfl ?_
  refine sX6_init_9 (Nat.le_of_ble_eq_true rfl) ?_
  refine c_init8 (q := q + 1) (by rw [← E0, xn_Ts]) (by show h.1 + 1 = _; omega) (fun i => by rw [← E0, xn_Is]) (by show _ ≤ h.1 + 1; omega) (fun j1 e1 f1 G1 c1 => ?_)
  have f1' : j1.2.1 = h.2.1 + 6 + 0 := f1
  refine sX6_init_12 (by rw [(G1.2 q (by omega)).1, xn_T (by omega)]; exact T0) ?_
  obtain ⟨h1, hh1⟩ : ∃ h', h' = xsP j1 q 0 (some (q + 1)) := ⟨_, rfl⟩
  rw [← hh1]
  obtain ⟨E1, S1, K1, R1, F1, I1, T1⟩ := nwO (a' := q + 3) E0 (by omega) T0 e1 G1 hh1
  have C1 := CTk_r (rg_s R1 (by omega) (by omega)) c1
  refine sX6_init_15 rfl ?_
  refine nX6_init_16 ?_
  refine sX6_init_18 (nI_pos (by decide)) (by decide) (show g.2.2.1 ≤ h1.1 by omega) ?_
  rw [show (nI 88).toNatClampNeg = 88 by decide, E1]
  refine sX6_init_20 (by rw [xn_T (by omega)]; exact T1) ?_
  obtain ⟨h2, hh2⟩ : ∃ h', h' = xsP (xnew h1 100 88) q 1 (some (q + 3)) := ⟨_, rfl⟩
  rw [← hh2]
  obtain ⟨E2, S2, K2, A2, Z2, N2, F2, I2, T2⟩ := nwA (a' := q + 4) E1 (by omega) T1 hh2 rfl
  refine sX6_init_23 rfl ?_
  refine nX6_init_24 ?_
  refine sX6_init_26 (nI_pos (by decide)) (by decide) (show g.2.2.1 ≤ h2.1 by omega) ?_
  rw [show (nI 88).toNatClampNeg = 88 by decide, E2]
  refine sX6_init_28 (by rw [xn_T (by omega)]; exact T2) ?_
  obtain ⟨h3, hh3⟩ : ∃ h', h' = xsP (xnew h2 100 88) q 2 (some (q + 4)) := ⟨_, rfl⟩
  rw [← hh3]
  obtain ⟨E3, S3, K3, A3, Z3, N3, F3, I3, T3⟩ := nwA (a' := q + 5) E2 (by omega) T2 hh3 rfl
  have U3 := kp_r q h3
  have U2 := kp_t K3 U3
  have U1 := kp_t K2 U2
  have U0 := kp_t K1 U1
  exact sX6_init_31 (k _ E3 (by omega) (gw_kp U0 (by omega)) ⟨T3, ⟨by rw [F3, if_neg (by decide), F2, if_neg (by decide), F1, if_pos rfl], by rw [F3, if_neg (by decide), F2, if_pos rfl], by rw [F3, if_pos rfl]⟩, CTk_r (rg_kp U1 (by omega) (by omega)) C1, by rw [(U2.2 _ (by omega)).1]; exact A2, by rw [(U3.2 _ (by omega)).1]; exact A3⟩)
theorem c_init3 {q : Nat} (ht : (xT h q).1 = 3) (hq : h.1 = q + 1) (hI : ∀ i, xI h q i = 0) (hlo : g.2.2.1 ≤ h.1) (k : ∀ h', h'.1 = q + 6 → h'.2.1 = h.2.1 + 422 → gw q h h' → CE h' q → Q none h') : ac g l mX3_init [.ref q] h Q := by
  refine ac_of (by decide) (Nat.le_of_ble_eq_true rfl) ?_
  refine sX3_init_0 rfl ?_
  refine sX3_init_1 (Nat.le_of_ble_eq_true rfl) ?_
  have E0 : h.1 = q + 1 := hq
  have T0 : (xT h q).1 = 3 := ht
  refine sX3_init_4 rfl ?_
  refine sX3_init_5 (show g.2.2.1 ≤ h.1 by omega) ?_
  rw [E0]
  refine sX3_init_8 rfl ?_
  refine sX3_init_9 ?_
  refine sX3_init_10 (Nat.le_of_ble_eq_true rfl) ?_
  refine c_init5 (c := 128) (q := q + 1) (Or.inr ⟨rfl, rfl⟩) (by rw [← E0, xn_Ts]) (by show h.1 + 1 = _; omega) (by show _ ≤ h.1 + 1; omega) (fun j1 e1 f1 G1 c1 z1 i1 => ?_)
  have f1' : j1.2.1 = h.2.1 + 2 + 128 := f1
  refine sX3_init_13 (by rw [(G1.2 q (by omega)).1, xn_T (by omega)]; exact T0) ?_
  obtain ⟨h1, hh1⟩ : ∃ h', h' = xsP j1 q 0 (some (q + 1)) := ⟨_, rfl⟩
  rw [← hh1]
  obtain ⟨E1, S1, K1, R1, F1, I1, T1⟩ := nwO (a' := q + 3) E0 (by omega) T0 e1 G1 hh1
  have C1 := CN_r (rg_s R1 (by omega) (by omega)) c1
  refine sX3_init_16 rfl ?_
  refine sX3_init_17 (show g.2.2.1 ≤ h1.1 by omega) ?_
  rw [E1]
  refine sX3_init_20 rfl ?_
  refine sX3_init_21 ?_
  refine sX3_init_22 (Nat.le_of_ble_eq_true rfl) ?_
  refine c_init5 (c := 128) (q := q + 3) (Or.inr ⟨rfl, rfl⟩) (by rw [← E1, xn_Ts]) (by show h1.1 + 1 = _; omega) (by show _ ≤ h1.1 + 1; omega) (fun j2 e2 f2 G2 c2 z2 i2 => ?_)
  have f2' : j2.2.1 = h1.2.1 + 2 + 128 := f2
  refine sX3_init_25 (by rw [(G2.2 q (by omega)).1, xn_T (by omega)]; exact T1) ?_
  obtain ⟨h2, hh2⟩ : ∃ h', h' = xsP j2 q 1 (some (q + 3)) := ⟨_, rfl⟩
  rw [← hh2]
  obtain ⟨E2, S2, K2, R2, F2, I2, T2⟩ := nwO (a' := q + 5) E1 (by omega) T1 e2 G2 hh2
  have C2 := CN_r (rg_s R2 (by omega) (by omega)) c2
  refine sX3_init_28 rfl ?_
  refine nX3_init_29 ?_
  refine sX3_init_32 (nI_pos (by decide)) (by decide) (show g.2.2.1 ≤ h2.1 by omega) ?_
  rw [show (nI 162).toNatClampNeg = 162 by decide, E2]
  refine sX3_init_34 (by rw [xn_T (by omega)]; exact T2) ?_
  obtain ⟨h3, hh3⟩ : ∃ h', h' = xsP (xnew h2 100 162) q 2 (some (q + 5)) := ⟨_, rfl⟩
  rw [← hh3]
  obtain ⟨E3, S3, K3, A3, Z3, N3, F3, I3, T3⟩ := nwA (a' := q + 6) E2 (by omega) T2 hh3 rfl
  have U3 := kp_r q h3
  have U2 := kp_t K3 U3
  have U1 := kp_t K2 U2
  have U0 := kp_t K1 U1
  exact sX3_init_37 (k _ E3 (by omega) (gw_kp U0 (by omega)) ⟨T3, ⟨by rw [F3, if_neg (by decide), F2, if_neg (by decide), F1, if_pos rfl], by rw [F3, if_neg (by decide), F2, if_pos rfl], by rw [F3, if_pos rfl]⟩, CN_r (rg_kp U1 (by omega) (by omega)) C1, CN_r (rg_kp U2 (by omega) (by omega)) C2, by rw [(U3.2 _ (by omega)).1]; exact A3⟩)
theorem c_init0 {q : Nat} {y : Int32} (ht : (xT h q).1 = 0) (hq : h.1 = q + 1) (hI : ∀ i, xI h q i = 0) (hlo : g.2.2.1 ≤ h.1) (k : ∀ h', h'.1 = q + 13 → h'.2.1 = h.2.1 + 908 → gw q h h' → CB h' q → xI h' q 0 = y → Q none h') : ac g l mX0_init [.ref q, .int y] h Q := by
  refine ac_of (by decide) (Nat.le_of_ble_eq_true rfl) ?_
  refine sX0_init_0 rfl ?_
  refine sX0_init_1 (Nat.le_of_ble_eq_true rfl) ?_
  have E0 : h.1 = q + 1 := hq
  have T0 : (xT h q).1 = 0 := ht
  refine sX0_init_4 rfl ?_
  refine sX0_init_5 (show g.2.2.1 ≤ h.1 by omega) ?_
  rw [E0]
  refine sX0_init_8 rfl ?_
  refine sX0_init_9 ?_
  refine sX0_init_10 (Nat.le_of_ble_eq_true rfl) ?_
  refine c_init5 (c := 128) (q := q + 1) (Or.inr ⟨rfl, rfl⟩) (by rw [← E0, xn_Ts]) (by show h.1 + 1 = _; omega) (by show _ ≤ h.1 + 1; omega) (fun j1 e1 f1 G1 c1 z1 i1 => ?_)
  have f1' : j1.2.1 = h.2.1 + 2 + 128 := f1
  refine sX0_init_13 (by rw [(G1.2 q (by omega)).1, xn_T (by omega)]; exact T0) ?_
  obtain ⟨h1, hh1⟩ : ∃ h', h' = xsP j1 q 1 (some (q + 1)) := ⟨_, rfl⟩
  rw [← hh1]
  obtain ⟨E1, S1, K1, R1, F1, I1, T1⟩ := nwO (a' := q + 3) E0 (by omega) T0 e1 G1 hh1
  have C1 := CN_r (rg_s R1 (by omega) (by omega)) c1
  refine sX0_init_16 rfl ?_
  refine sX0_init_17 (show g.2.2.1 ≤ h1.1 by omega) ?_
  rw [E1]
  refine sX0_init_20 rfl ?_
  refine sX0_init_21 ?_
  refine sX0_init_22 (Nat.le_of_ble_eq_true rfl) ?_
  refine c_init5 (c := 128) (q := q + 3) (Or.inr ⟨rfl, rfl⟩) (by rw [← E1, xn_Ts]) (by show h1.1 + 1 = _; omega) (by show _ ≤ h1.1 + 1; omega) (fun j2 e2 f2 G2 c2 z2 i2 => ?_)
  have f2' : j2.2.1 = h1.2.1 + 2 + 128 := f2
  refine sX0_init_25 (by rw [(G2.2 q (by omega)).1, xn_T (by omega)]; exact T1) ?_
  obtain ⟨h2, hh2⟩ : ∃ h', h' = xsP j2 q 2 (some (q + 3)) := ⟨_, rfl⟩
  rw [← hh2]
  obtain ⟨E2, S2, K2, R2, F2, I2, T2⟩ := nwO (a' := q + 5) E1 (by omega) T1 e2 G2 hh2
  have C2 := CN_r (rg_s R2 (by omega) (by omega)) c2
  refine sX0_init_28 rfl ?_
  refine sX0_init_29 (show g.2.2.1 ≤ h2.1 by omega) ?_
  rw [E2]
  refine sX0_init_32 rfl ?_
  refine sX0_init_33 ?_
  refine sX0_init_34 (Nat.le_of_ble_eq_true rfl) ?_
  refine c_init5 (c := 128) (q := q + 5) (Or.inr ⟨rfl, rfl⟩) (by rw [← E2, xn_Ts]) (by show h2.1 + 1 = _; omega) (by show _ ≤ h2.1 + 1; omega) (fun j3 e3 f3 G3 c3 z3 i3 => ?_)
  have f3' : j3.2.1 = h2.2.1 + 2 + 128 := f3
  refine sX0_init_37 (by rw [(G3.2 q (by omega)).1, xn_T (by omega)]; exact T2) ?_
  obtain ⟨h3, hh3⟩ : ∃ h', h' = xsP j3 q 4 (some (q + 5)) := ⟨_, rfl⟩
  rw [← hh3]
  obtain ⟨E3, S3, K3, R3, F3, I3, T3⟩ := nwO (a' := q + 7) E2 (by omega) T2 e3 G3 hh3
  have C3 := CN_r (rg_s R3 (by omega) (by omega)) c3
  refine sX0_init_40 rfl ?_
  refine sX0_init_41 (show g.2.2.1 ≤ h3.1 by omega) ?_
  rw [E3]
  refine sX0_init_44 rfl ?_
  refine sX0_init_45 ?_
  refine sX0_init_46 (Nat.le_of_ble_eq_true rfl) ?_
  refine c_init5 (c := 128) (q := q + 7) (Or.inr ⟨rfl, rfl⟩) (by rw [← E3, xn_Ts]) (by show h3.1 + 1 = _; omega) (by show _ ≤ h3.1 + 1; omega) (fun j4 e4 f4 G4 c4 z4 i4 => ?_)
  have f4' : j4.2.1 = h3.2.1 + 2 + 128 := f4
  refine sX0_init_49 (by rw [(G4.2 q (by omega)).1, xn_T (by omega)]; exact T3) ?_
  obtain ⟨h4, hh4⟩ : ∃ h', h' = xsP j4 q 5 (some (q + 7)) := ⟨_, rfl⟩
  rw [← hh4]
  obtain ⟨E4, S4, K4, R4, F4, I4, T4⟩ := nwO (a' := q + 9) E3 (by omega) T3 e4 G4 hh4
  have C4 := CN_r (rg_s R4 (by omega) (by omega)) c4
  refine sX0_init_52 rfl ?_
  refine sX0_init_53 (show g.2.2.1 ≤ h4.1 by omega) ?_
  rw [E4]
  refine sX0_init_56 rfl ?_
  refine sX0_init_57 ?_
  refine sX0_init_58 (Nat.le_of_ble_eq_true rfl) ?_
  refine c_init5 (c := 128) (q := q + 9) (Or.inr ⟨rfl, rfl⟩) (by rw [← E4, xn_Ts]) (by show h4.1 + 1 = _; omega) (by show _ ≤ h4.1 + 1; omega) (fun j5 e5 f5 G5 c5 z5 i5 => ?_)
  have f5' : j5.2.1 = h4.2.1 + 2 + 128 := f5
  refine sX0_init_61 (by rw [(G5.2 q (by omega)).1, xn_T (by omega)]; exact T4) ?_
  obtain ⟨h5, hh5⟩ : ∃ h', h' = xsP j5 q 6 (some (q + 9)) := ⟨_, rfl⟩
  rw [← hh5]
  obtain ⟨E5, S5, K5, R5, F5, I5, T5⟩ := nwO (a' := q + 11) E4 (by omega) T4 e5 G5 hh5
  have C5 := CN_r (rg_s R5 (by omega) (by omega)) c5
  refine sX0_init_64 rfl ?_
  refine nX0_init_65 ?_
  refine sX0_init_68 (nI_pos (by decide)) (by decide) (show g.2.2.1 ≤ h5.1 by omega) ?_
  rw [show (nI 129).toNatClampNeg = 129 by decide, E5]
  refine sX0_init_70 (by rw [xn_T (by omega)]; exact T5) ?_
  obtain ⟨h6, hh6⟩ : ∃ h', h' = xsP (xnew h5 100 129) q 7 (some (q + 11)) := ⟨_, rfl⟩
  rw [← hh6]
  obtain ⟨E6, S6, K6, A6, Z6, N6, F6, I6, T6⟩ := nwA (a' := q + 12) E5 (by omega) T5 hh6 rfl
  refine sX0_init_73 rfl ?_
  refine nX0_init_74 ?_
  refine sX0_init_77 (nI_pos (by decide)) (by decide) (show g.2.2.1 ≤ h6.1 by omega) ?_
  rw [show (nI 129).toNatClampNeg = 129 by decide, E6]
  refine sX0_init_79 (by rw [xn_T (by omega)]; exact T6) ?_
  obtain ⟨h7, hh7⟩ : ∃ h', h' = xsP (xnew h6 100 129) q 8 (some (q + 12)) := ⟨_, rfl⟩
  rw [← hh7]
  obtain ⟨E7, S7, K7, A7, Z7, N7, F7, I7, T7⟩ := nwA (a' := q + 13) E6 (by omega) T6 hh7 rfl
  have U7 := kp_r q h7
  have U6 := kp_t K7 U7
  have U5 := kp_t K6 U6
  have U4 := kp_t K5 U5
  have U3 := kp_t K4 U4
  have U2 := kp_t K3 U3
  have U1 := kp_t K2 U2
  have U0 := kp_t K1 U1
  refine sX0_init_82 rfl ?_
  refine sX0_init_83 rfl ?_
  refine sX0_init_84 T7 (sX0_init_87 (k _ E7 (by show h7.2.1 = _; omega) (gw_t (gw_kp U0 (by omega)) (gw_i (p := q) (Nat.le_refl q)) (Nat.le_refl _)) (show CB h7 q from ⟨T7, ⟨by rw [F7, if_neg (by decide), F6, if_neg (by decide), F5, if_neg (by decide), F4, if_neg (by decide), F3, if_neg (by decide), F2, if_neg (by decide), F1, if_pos rfl], by rw [F7, if_neg (by decide), F6, if_neg (by decide), F5, if_neg (by decide), F4, if_neg (by decide), F3, if_neg (by decide), F2, if_pos rfl], by rw [F7, if_neg (by decide), F6, if_neg (by decide), F5, if_neg (by decide), F4, if_neg (by decide), F3, if_pos rfl], by rw [F7, if_neg (by decide), F6, if_neg (by decide), F5, if_neg (by decide), F4, if_pos rfl], by rw [F7, if_neg (by decide), F6, if_neg (by decide), F5, if_pos rfl], by rw [F7, if_neg (by decide), F6, if_pos rfl], by rw [F7, if_pos rfl]⟩, ⟨CN_r (rg_kp U1 (by omega) (by omega)) C1, CN_r (rg_kp U2 (by omega) (by omega)) C2, CN_r (rg_kp U3 (by omega) (by omega)) C3, CN_r (rg_kp U4 (by omega) (by omega)) C4, CN_r (rg_kp U5 (by omega) (by omega)) C5⟩, by rw [(U6.2 _ (by omega)).1]; exact A6, by rw [(U7.2 _ (by omega)).1]; exact A7⟩) xup2_s))
theorem c_init4l {q : Nat} : ∀ (n i : Nat) (h : xH) (lv0 : List (Nat × Value)), i + n = 100 → h.1 = q + 4 + 6 * i → g.2.2.1 ≤ h.1 → (xT h q).1 = 4 → xP h q 0 = some (q + 1) → xT h (q + 1) = (103, 100) → (∀ k, k < i → xP h (q + 1) k = some (q + 4 + 6 * k) ∧ CV h (q + 4 + 6 * k)) → (∀ h', h'.1 = q + 604 → h'.2.1 = h.2.1 + 52 * n → kp (q + 1) h h' → (∀ k, k < 100 → xP h' (q + 1) k = some (q + 4 + 6 * k) ∧ CV h' (q + 4 + 6 * k)) → Q none h') → (∀ z ∈ ([(0, .ref q), (1, .int (nI i))] : List (Nat × Value)), z ∈ lv0) → aw g l mX4_init 31 lv0 [] h Q
  | n, i, h, lv0, hn, hq, hlo, t4, p0, t1, hk, k, hlv => by
    refine aw_lv hlv ?_
    refine sX4_init_31 rfl ?_
    refine nX4_init_32 ?_
    refine nX4_init_34 (by omega) (by decide) (fun hc => ?_) (fun hc => ?_)
    · have : n = 0 := by omega
      subst this
      exact sX4_init_56 (k h (by omega) rfl (kp_r _ _) (fun j hj => hk j (by omega)))
    · obtain ⟨n, rfl⟩ : ∃ m, n = m + 1 := ⟨n - 1, by omega⟩
      refine sX4_init_37 rfl ?_
      refine sX4_init_38 t4 p0 ?_
      refine sX4_init_41 rfl ?_
      refine sX4_init_42 hlo ?_
      rw [hq]
      refine sX4_init_45 rfl ?_
      refine sX4_init_46 (Nat.le_of_ble_eq_true rfl) ?_
      refine c_init9 (q := q + 4 + 6 * i) (by rw [← hq, xn_Ts]) (by show h.1 + 1 = _; omega) (fun i => by rw [← hq, xn_Is]) (by show _ ≤ h.1 + 1; omega) (fun j1 e1 f1 G1 c1 v1 => ?_)
      have f1' : j1.2.1 = h.2.1 + 4 + 48 := f1
      have b0 : ∀ a, a < q + 4 + 6 * i → xT j1 a = xT h a ∧ xP j1 a = xP h a ∧ xI j1 a = xI h a := fun a ha => by
        obtain ⟨g1, g2, g3⟩ := G1.2 a ha
        exact ⟨by rw [g1, xn_T (by omega)], by rw [g2, xn_P (by omega)], by rw [g3, xn_I (by omega)]⟩
      have t1' : xT j1 (q + 1) = (103, 100) := by rw [(b0 _ (by omega)).1]; exact t1
      refine sX4_init_49 (by rw [t1']) c1.1 (by rw [t1']; exact vp_in_nI (by omega) (by decide)) ?_
      rw [nI_clamp (show i < 2 ^ 31 by omega)]
      obtain ⟨h1, hh⟩ : ∃ h', h' = xsP j1 (q + 1) i (some (q + 4 + 6 * i)) := ⟨_, rfl⟩
      rw [← hh]
      have r1 : ∀ lo hi, q + 1 < lo → rg lo hi j1 h1 := fun lo hi hl a a1 a2 => by rw [hh]; exact ⟨rfl, xs_n (by omega), rfl⟩
      have r0 : ∀ lo hi, q + 1 < lo → hi ≤ q + 4 + 6 * i → rg lo hi h h1 := fun lo hi hl hr a a1 a2 => by
        obtain ⟨s1, s2, s3⟩ := r1 lo hi hl a a1 a2
        obtain ⟨u1, u2, u3⟩ := b0 a (by omega)
        exact ⟨s1.trans u1, s2.trans u2, s3.trans u3⟩
      have tq : ∀ a, a < q + 4 + 6 * i → xT h1 a = xT h a := fun a ha => by rw [hh]; exact (b0 a ha).1
      have E1 : h1.1 = q + 4 + 6 * (i + 1) := by rw [hh]; show j1.1 = _; omega
      have k1 : kp (q + 1) h h1 := ⟨by omega, fun a ha => ⟨tq a (by omega), fun hn => by
        rw [hh]
        obtain ⟨u1, u2, u3⟩ := b0 a (by omega)
        exact ⟨(xs_n hn).trans u2, u3⟩⟩⟩
      refine nX4_init_50 rfl ?_
      refine sX4_init_53 ?_
      refine c_init4l n (i + 1) h1 _ (by omega) E1 (by omega) (by rw [tq _ (by omega)]; exact t4) (by rw [((k1.2 q (by omega)).2 (by omega)).1]; exact p0) (by rw [tq _ (by omega)]; exact t1) (fun j hj => ?_) (fun h' a1 a2 a3 a4 => k h' a1 ?_ (kp_t k1 a3) a4) (fun z hz => by simp only [List.mem_cons, List.not_mem_nil, or_false] at hz; rcases hz with rfl | rfl <;> exact xlk_mem rfl)
      · rcases Nat.lt_or_eq_of_le (Nat.le_of_lt_succ hj) with e | e
        · refine ⟨?_, CV_r (r0 _ _ (by omega) (by omega)) (hk j e).2⟩
          rw [hh, xs_k (by omega), (b0 _ (by omega)).2.1]; exact (hk j e).1
        · subst e
          exact ⟨by rw [hh, xs_s], CV_r (r1 _ _ (by omega)) c1⟩
      · rw [a2, hh]; show j1.2.1 + _ = _; omega
theorem c_init4 {q : Nat} (ht : (xT h q).1 = 4) (hq : h.1 = q + 1) (hI : ∀ i, xI h q i = 0) (hlo : g.2.2.1 ≤ h.1) (k : ∀ h', h'.1 = q + 604 → h'.2.1 = h.2.1 + 5500 → gw q h h' → CLd h' q → Q none h') : ac g l mX4_init [.ref q] h Q := by
  refine ac_of (by decide) (Nat.le_of_ble_eq_true rfl) ?_
  refine sX4_init_0 rfl ?_
  refine sX4_init_1 (Nat.le_of_ble_eq_true rfl) ?_
  have E0 : h.1 = q + 1 := hq
  have T0 : (xT h q).1 = 4 := ht
  refine sX4_init_4 rfl ?_
  refine nX4_init_5 ?_
  refine sX4_init_7 (nI_pos (by decide)) (by decide) (show g.2.2.1 ≤ h.1 by omega) ?_
  rw [show (nI 100).toNatClampNeg = 100 by decide, E0]
  refine sX4_init_10 (by rw [xn_T (by omega)]; exact T0) ?_
  obtain ⟨h1, hh1⟩ : ∃ h', h' = xsP (xnew h 103 100) q 0 (some (q + 1)) := ⟨_, rfl⟩
  rw [← hh1]
  obtain ⟨E1, S1, K1, A1, Z1, N1, F1, I1, T1⟩ := nwA (a' := q + 2) E0 (by omega) T0 hh1 rfl
  refine sX4_init_13 rfl ?_
  refine nX4_init_14 ?_
  refine sX4_init_16 (nI_pos (by decide)) (by decide) (show g.2.2.1 ≤ h1.1 by omega) ?_
  rw [show (nI 100).toNatClampNeg = 100 by decide, E1]
  refine sX4_init_18 (by rw [xn_T (by omega)]; exact T1) ?_
  obtain ⟨h2, hh2⟩ : ∃ h', h' = xsP (xnew h1 100 100) q 1 (some (q + 2)) := ⟨_, rfl⟩
  rw [← hh2]
  obtain ⟨E2, S2, K2, A2, Z2, N2, F2, I2, T2⟩ := nwA (a' := q + 3) E1 (by omega) T1 hh2 rfl
  refine sX4_init_21 rfl ?_
  refine nX4_init_22 ?_
  refine sX4_init_24 (nI_pos (by decide)) (by decide) (show g.2.2.1 ≤ h2.1 by omega) ?_
  rw [show (nI 100).toNatClampNeg = 100 by decide, E2]
  refine sX4_init_26 (by rw [xn_T (by omega)]; exact T2) ?_
  obtain ⟨h3, hh3⟩ : ∃ h', h' = xsP (xnew h2 100 100) q 2 (some (q + 3)) := ⟨_, rfl⟩
  rw [← hh3]
  obtain ⟨E3, S3, K3, A3, Z3, N3, F3, I3, T3⟩ := nwA (a' := q + 4) E2 (by omega) T2 hh3 rfl
  have U3 := kp_r q h3
  have U2 := kp_t K3 U3
  have U1 := kp_t K2 U2
  have U0 := kp_t K1 U1
  refine nX4_init_29 ?_
  refine sX4_init_30 ?_
  refine c_init4l 100 0 h3 _ (by omega) E3 (by omega) T3 (by rw [F3, if_neg (by decide), F2, if_neg (by decide), F1, if_pos rfl]) (by rw [(U1.2 _ (by omega)).1]; exact A1) (fun j hj => absurd hj (by omega)) (fun h' a1 a2 a3 a4 => k h' a1 (by omega) ⟨by have := U0.1; have := a3.1; omega, fun a ha => ?_⟩ ?_) (fun z hz => by simp only [List.mem_cons, List.not_mem_nil, or_false] at hz; rcases hz with rfl | rfl <;> exact xlk_mem rfl)
  · obtain ⟨s1, s2, s3⟩ := (gw_kp U0 (by omega)).2 a ha
    obtain ⟨u1, u2⟩ := a3.2 a (by omega)
    obtain ⟨u3, u4⟩ := u2 (by omega)
    exact ⟨u1.trans s1, u3.trans s2, u4.trans s3⟩
  · have pq : xP h' q = xP h3 q := ((a3.2 q (by omega)).2 (by omega)).1
    have tt : ∀ a, a < q + 4 → xT h' a = xT h3 a := fun a ha => (a3.2 a (by omega)).1
    refine ⟨by rw [tt _ (by omega)]; exact T3, ?_, by rw [tt _ (by omega)]; exact (by rw [(U1.2 _ (by omega)).1]; exact A1), by rw [tt _ (by omega)]; exact (by rw [(U2.2 _ (by omega)).1]; exact A2), by rw [tt _ (by omega)]; exact (by rw [(U3.2 _ (by omega)).1]; exact A3), a4⟩
    rw [pq]; exact ⟨by rw [F3, if_neg (by decide), F2, if_neg (by decide), F1, if_pos rfl], by rw [F3, if_neg (by decide), F2, if_pos rfl], by rw [F3, if_pos rfl]⟩
theorem c_init7 {q : Nat} {y : Int32} (ht : (xT h q).1 = 7) (hq : h.1 = q + 1) (hI : ∀ i, xI h q i = 0) (hlo : g.2.2.1 ≤ h.1) (k : ∀ h', h'.1 = q + 1226 → h'.2.1 = h.2.1 + 18990 → gw q h h' → CRn h' q → xI h' (q + 1213) 0 = y → Q none h') : ac g l mX7_init [.ref q, .int y] h Q := by
  refine ac_of (by decide) (Nat.le_of_ble_eq_true rfl) ?_
  refine sX7_init_0 rfl ?_
  refine sX7_init_1 (Nat.le_of_ble_eq_true rfl) ?_
  have E0 : h.1 = q + 1 := hq
  have T0 : (xT h q).1 = 7 := ht
  refine sX7_init_4 rfl ?_
  refine sX7_init_5 (show g.2.2.1 ≤ h.1 by omega) ?_
  rw [E0]
  refine sX7_init_8 rfl ?_
  refine sX7_init_9 (Nat.le_of_ble_eq_true rfl) ?_
  refine c_init4 (q := q + 1) (by rw [← E0, xn_Ts]) (by show h.1 + 1 = _; omega) (fun i => by rw [← E0, xn_Is]) (by show _ ≤ h.1 + 1; omega) (fun j1 e1 f1 G1 c1 => ?_)
  have f1' : j1.2.1 = h.2.1 + 3 + 5500 := f1
  refine sX7_init_12 (by rw [(G1.2 q (by omega)).1, xn_T (by omega)]; exact T0) ?_
  obtain ⟨h1, hh1⟩ : ∃ h', h' = xsP j1 q 1 (some (q + 1)) := ⟨_, rfl⟩
  rw [← hh1]
  obtain ⟨E1, S1, K1, R1, F1, I1, T1⟩ := nwO (a' := q + 605) E0 (by omega) T0 e1 G1 hh1
  have C1 := CLd_r (rg_s R1 (by omega) (by omega)) c1
  refine sX7_init_15 rfl ?_
  refine sX7_init_16 (show g.2.2.1 ≤ h1.1 by omega) ?_
  rw [E1]
  refine sX7_init_19 rfl ?_
  refine sX7_init_20 (Nat.le_of_ble_eq_true rfl) ?_
  refine c_init4 (q := q + 605) (by rw [← E1, xn_Ts]) (by show h1.1 + 1 = _; omega) (fun i => by rw [← E1, xn_Is]) (by show _ ≤ h1.1 + 1; omega) (fun j2 e2 f2 G2 c2 => ?_)
  have f2' : j2.2.1 = h1.2.1 + 3 + 5500 := f2
  refine sX7_init_23 (by rw [(G2.2 q (by omega)).1, xn_T (by omega)]; exact T1) ?_
  obtain ⟨h2, hh2⟩ : ∃ h', h' = xsP j2 q 2 (some (q + 605)) := ⟨_, rfl⟩
  rw [← hh2]
  obtain ⟨E2, S2, K2, R2, F2, I2, T2⟩ := nwO (a' := q + 1209) E1 (by omega) T1 e2 G2 hh2
  have C2 := CLd_r (rg_s R2 (by omega) (by omega)) c2
  refine sX7_init_26 rfl ?_
  refine nX7_init_27 ?_
  refine sX7_init_30 (nI_pos (by decide)) (by decide) (show g.2.2.1 ≤ h2.1 by omega) ?_
  rw [show (nI 6767).toNatClampNeg = 6767 by decide, E2]
  refine sX7_init_33 (by rw [xn_T (by omega)]; exact T2) ?_
  obtain ⟨h3, hh3⟩ : ∃ h', h' = xsP (xnew h2 103 6767) q 3 (some (q + 1209)) := ⟨_, rfl⟩
  rw [← hh3]
  obtain ⟨E3, S3, K3, A3, Z3, N3, F3, I3, T3⟩ := nwA (a' := q + 1210) E2 (by omega) T2 hh3 rfl
  refine sX7_init_36 rfl ?_
  refine nX7_init_37 ?_
  refine sX7_init_39 (nI_pos (by decide)) (by decide) (show g.2.2.1 ≤ h3.1 by omega) ?_
  rw [show (nI 100).toNatClampNeg = 100 by decide, E3]
  refine sX7_init_41 (by rw [xn_T (by omega)]; exact T3) ?_
  obtain ⟨h4, hh4⟩ : ∃ h', h' = xsP (xnew h3 100 100) q 5 (some (q + 1210)) := ⟨_, rfl⟩
  rw [← hh4]
  obtain ⟨E4, S4, K4, A4, Z4, N4, F4, I4, T4⟩ := nwA (a' := q + 1211) E3 (by omega) T3 hh4 rfl
  refine sX7_init_44 rfl ?_
  refine nX7_init_45 ?_
  refine sX7_init_47 (nI_pos (by decide)) (by decide) (show g.2.2.1 ≤ h4.1 by omega) ?_
  rw [show (nI 100).toNatClampNeg = 100 by decide, E4]
  refine sX7_init_49 (by rw [xn_T (by omega)]; exact T4) ?_
  obtain ⟨h5, hh5⟩ : ∃ h', h' = xsP (xnew h4 100 100) q 6 (some (q + 1211)) := ⟨_, rfl⟩
  rw [← hh5]
  obtain ⟨E5, S5, K5, A5, Z5, N5, F5, I5, T5⟩ := nwA (a' := q + 1212) E4 (by omega) T4 hh5 rfl
  refine sX7_init_52 rfl ?_
  refine nX7_init_53 ?_
  refine sX7_init_55 (nI_pos (by decide)) (by decide) (show g.2.2.1 ≤ h5.1 by omega) ?_
  rw [show (nI 100).toNatClampNeg = 100 by decide, E5]
  refine sX7_init_57 (by rw [xn_T (by omega)]; exact T5) ?_
  obtain ⟨h6, hh6⟩ : ∃ h', h' = xsP (xnew h5 100 100) q 7 (some (q + 1212)) := ⟨_, rfl⟩
  rw [← hh6]
  obtain ⟨E6, S6, K6, A6, Z6, N6, F6, I6, T6⟩ := nwA (a' := q + 1213) E5 (by omega) T5 hh6 rfl
  refine sX7_init_60 rfl ?_
  refine sX7_init_61 (show g.2.2.1 ≤ h6.1 by omega) ?_
  rw [E6]
  refine sX7_init_64 rfl ?_
  refine sX7_init_65 rfl ?_
  refine sX7_init_66 (Nat.le_of_ble_eq_true rfl) ?_
  refine c_init0 (q := q + 1213) (y := y) (by rw [← E6, xn_Ts]) (by show h6.1 + 1 = _; omega) (fun i => by rw [← E6, xn_Is]) (by show _ ≤ h6.1 + 1; omega) (fun j7 e7 f7 G7 c7 z7 => ?_)
  have f7' : j7.2.1 = h6.2.1 + 9 + 908 := f7
  refine sX7_init_69 (by rw [(G7.2 q (by omega)).1, xn_T (by omega)]; exact T6) ?_
  obtain ⟨h7, hh7⟩ : ∃ h', h' = xsP j7 q 0 (some (q + 1213)) := ⟨_, rfl⟩
  rw [← hh7]
  obtain ⟨E7, S7, K7, R7, F7, I7, T7⟩ := nwO (a' := q + 1226) E6 (by omega) T6 e7 G7 hh7
  have C7 := CB_r (rg_s R7 (by omega) (by omega)) c7
  have U7 := kp_r q h7
  have U6 := kp_t K7 U7
  have U5 := kp_t K6 U6
  have U4 := kp_t K5 U5
  have U3 := kp_t K4 U4
  have U2 := kp_t K3 U3
  have U1 := kp_t K2 U2
  have U0 := kp_t K1 U1
  refine sX7_init_72 (k _ E7 (by omega) (gw_kp U0 (by omega)) ⟨⟨T7, ⟨by rw [F7, if_pos rfl], by rw [F7, if_neg (by decide), F6, if_neg (by decide), F5, if_neg (by decide), F4, if_neg (by decide), F3, if_neg (by decide), F2, if_neg (by decide), F1, if_pos rfl], by rw [F7, if_neg (by decide), F6, if_neg (by decide), F5, if_neg (by decide), F4, if_neg (by decide), F3, if_neg (by decide), F2, if_pos rfl], by rw [F7, if_neg (by decide), F6, if_neg (by decide), F5, if_neg (by decide), F4, if_neg (by decide), F3, if_pos rfl], by rw [F7, if_neg (by decide), F6, if_neg (by decide), F5, if_neg (by decide), F4, if_pos rfl], by rw [F7, if_neg (by decide), F6, if_neg (by decide), F5, if_pos rfl], by rw [F7, if_neg (by decide), F6, if_pos rfl]⟩, ⟨by rw [(U4.2 _ (by omega)).1]; exact A4, by rw [(U5.2 _ (by omega)).1]; exact A5, by rw [(U6.2 _ (by omega)).1]; exact A6⟩, C7, CLd_r (rg_kp U1 (by omega) (by omega)) C1, CLd_r (rg_kp U2 (by omega) (by omega)) C2, Or.inl ⟨rfl, rfl⟩⟩, by rw [(U3.2 _ (by omega)).1]; exact A3, fun i => ?_⟩ ?_)
  · rw [((U3.2 _ (by omega)).2 (by omega)).1]; exact N3 i
  · rw [(R7 (q + 1213) (by omega) (by omega)).2.2]; exact z7
def bI (y : Int32) : Nat := if y < 16 then 16 else if 512 < y then 512 else y.toInt.toNat
theorem i16 : (16 : Int32).toInt = 16 := by decide
theorem i512 : (512 : Int32).toInt = 512 := by decide
theorem bI_b (y : Int32) : 16 ≤ bI y ∧ bI y ≤ 512 := by
  unfold bI
  by_cases h1 : y < 16
  · rw [if_pos h1]; omega
  · rw [if_neg h1]
    by_cases h2 : 512 < y
    · rw [if_pos h2]; omega
    · rw [if_neg h2]
      rw [Int32.lt_iff_toInt_lt, i16] at h1
      rw [Int32.lt_iff_toInt_lt, i512] at h2
      omega
theorem bI_n (y : Int32) (h1 : ¬ y < 16) (h2 : ¬ 512 < y) : y = nI (bI y) := by
  unfold bI
  rw [if_neg h1, if_neg h2]
  apply Int32.toInt_inj.mp
  rw [Int32.lt_iff_toInt_lt, i16] at h1
  rw [Int32.lt_iff_toInt_lt, i512] at h2
  rw [nI_toInt (by omega)]
  omega
theorem bI_m (y : Int32) : (if (16 : Int32) < (if y < 512 then y else 512) then (if y < 512 then y else 512) else 16) = nI (bI y) := by
  by_cases h1 : y < 16
  · have e : bI y = 16 := by unfold bI; rw [if_pos h1]
    rw [Int32.lt_iff_toInt_lt, i16] at h1
    have h3 : y < 512 := by rw [Int32.lt_iff_toInt_lt, i512]; omega
    have n : ¬ (16 : Int32) < y := by rw [Int32.lt_iff_toInt_lt, i16]; omega
    rw [if_pos h3, if_neg n, e]; rfl
  · by_cases h2 : 512 < y
    · have e : bI y = 512 := by unfold bI; rw [if_neg h1, if_pos h2]
      rw [Int32.lt_iff_toInt_lt, i512] at h2
      have n : ¬ y < 512 := by rw [Int32.lt_iff_toInt_lt, i512]; omega
      rw [if_neg n, if_pos (by decide), e]; rfl
    · refine Eq.trans ?_ (bI_n y h1 h2)
      rw [Int32.lt_iff_toInt_lt, i16] at h1
      rw [Int32.lt_iff_toInt_lt, i512] at h2
      by_cases h3 : y < 512
      · rw [if_pos h3]
        by_cases h4 : 16 < y
        · rw [if_pos h4]
        · rw [if_neg h4]
          rw [Int32.lt_iff_toInt_lt, i16] at h4
          exact Int32.toInt_inj.mp (by rw [i16]; omega)
      · rw [if_neg h3, if_pos (by decide)]
        rw [Int32.lt_iff_toInt_lt, i512] at h3
        exact Int32.toInt_inj.mp (by rw [i512]; omega)
theorem ble (y x : Int32) : (y ≤ x) = ¬ x < y := by
  apply propext
  rw [Int32.le_iff_toInt_le, Int32.lt_iff_toInt_lt]; omega
theorem c_init10 {x : Nat} {y : Int32} (ht : (xT h x).1 = 10) (hq : h.1 = x + 1) (hI : ∀ i, xI h x i = 0) (hlo : g.2.2.1 ≤ h.1) (k : ∀ h', h'.1 = x + 1258 → h'.2.1 = h.2.1 + 75628 → gw x h h' → CM h' x → CW h' (x + 2) → CPr h' (x + 15) → CE h' (x + 20) → CV h' (x + 26) → CRn h' (x + 32) → xI h' x 0 = nI (bI y) → xI h' (x + 32 + 1213) 0 = nI (bI y) → (∀ i, 0 < i → xI h' x i = 0) → (∀ i, i < 11 → xI h' (x + 2) i = 0) → (∀ i, xI h' (x + 2 + 1) i = 0) → VJ (xI h') (x + 26) v00 → Q none h') : ac g l mX10_init [.ref x, .int y] h Q := by
  revert ht hq hI k
  generalize x = q
  intro ht hq hI k
  refine ac_of (by decide) (Nat.le_of_ble_eq_true rfl) ?_
  refine sX10_init_0 rfl ?_
  refine sX10_init_1 (Nat.le_of_ble_eq_true rfl) ?_
  have E0 : h.1 = q + 1 := hq
  have T0 : (xT h q).1 = 10 := ht
  refine sX10_init_4 rfl ?_
  refine nX10_init_5 ?_
  refine sX10_init_8 (nI_pos (by decide)) (by decide) (show g.2.2.1 ≤ h.1 by omega) ?_
  rw [show (nI 4000).toNatClampNeg = 4000 by decide, E0]
  refine sX10_init_10 (by rw [xn_T (by omega)]; exact T0) ?_
  obtain ⟨h1, hh1⟩ : ∃ h', h' = xsP (xnew h 101 4000) q 1 (some (q + 1)) := ⟨_, rfl⟩
  rw [← hh1]
  obtain ⟨E1, S1, K1, A1, Z1, N1, F1, I1, T1⟩ := nwA (a' := q + 2) E0 (by omega) T0 hh1 rfl
  refine sX10_init_13 rfl ?_
  refine sX10_init_14 (show g.2.2.1 ≤ h1.1 by omega) ?_
  rw [E1]
  refine sX10_init_17 rfl ?_
  refine sX10_init_18 (Nat.le_of_ble_eq_true rfl) ?_
  refine c_init1 (q := q + 2) (by rw [← E1, xn_Ts]) (by show h1.1 + 1 = _; omega) (fun i => by rw [← E1, xn_Is]) (by show _ ≤ h1.1 + 1; omega) (fun j2 e2 f2 G2 c2 y2 z2 => ?_)
  have f2' : j2.2.1 = h1.2.1 + 13 + 51948 := f2
  refine sX10_init_21 (by rw [(G2.2 q (by omega)).1, xn_T (by omega)]; exact T1) ?_
  obtain ⟨h2, hh2⟩ : ∃ h', h' = xsP j2 q 3 (some (q + 2)) := ⟨_, rfl⟩
  rw [← hh2]
  obtain ⟨E2, S2, K2, R2, F2, I2, T2⟩ := nwO (a' := q + 15) E1 (by omega) T1 e2 G2 hh2
  have C2 := CW_r (rg_s R2 (by omega) (by omega)) c2
  refine sX10_init_24 rfl ?_
  refine sX10_init_25 (show g.2.2.1 ≤ h2.1 by omega) ?_
  rw [E2]
  refine sX10_init_28 rfl ?_
  refine sX10_init_29 (Nat.le_of_ble_eq_true rfl) ?_
  refine c_init6 (q := q + 15) (by rw [← E2, xn_Ts]) (by show h2.1 + 1 = _; omega) (fun i => by rw [← E2, xn_Is]) (by show _ ≤ h2.1 + 1; omega) (fun j3 e3 f3 G3 c3 => ?_)
  have f3' : j3.2.1 = h2.2.1 + 5 + 182 := f3
  refine sX10_init_32 (by rw [(G3.2 q (by omega)).1, xn_T (by omega)]; exact T2) ?_
  obtain ⟨h3, hh3⟩ : ∃ h', h' = xsP j3 q 4 (some (q + 15)) := ⟨_, rfl⟩
  rw [← hh3]
  obtain ⟨E3, S3, K3, R3, F3, I3, T3⟩ := nwO (a' := q + 20) E2 (by omega) T2 e3 G3 hh3
  have C3 := CPr_r (rg_s R3 (by omega) (by omega)) c3
  refine sX10_init_35 rfl ?_
  refine sX10_init_36 (show g.2.2.1 ≤ h3.1 by omega) ?_
  rw [E3]
  refine sX10_init_39 rfl ?_
  refine sX10_init_40 (Nat.le_of_ble_eq_true rfl) ?_
  refine c_init3 (q := q + 20) (by rw [← E3, xn_Ts]) (by show h3.1 + 1 = _; omega) (fun i => by rw [← E3, xn_Is]) (by show _ ≤ h3.1 + 1; omega) (fun j4 e4 f4 G4 c4 => ?_)
  have f4' : j4.2.1 = h3.2.1 + 4 + 422 := f4
  refine sX10_init_43 (by rw [(G4.2 q (by omega)).1, xn_T (by omega)]; exact T3) ?_
  obtain ⟨h4, hh4⟩ : ∃ h', h' = xsP j4 q 6 (some (q + 20)) := ⟨_, rfl⟩
  rw [← hh4]
  obtain ⟨E4, S4, K4, R4, F4, I4, T4⟩ := nwO (a' := q + 26) E3 (by omega) T3 e4 G4 hh4
  have C4 := CE_r (rg_s R4 (by omega) (by omega)) c4
  refine sX10_init_46 rfl ?_
  refine sX10_init_47 (show g.2.2.1 ≤ h4.1 by omega) ?_
  rw [E4]
  refine sX10_init_50 rfl ?_
  refine sX10_init_51 (Nat.le_of_ble_eq_true rfl) ?_
  refine c_init9 (q := q + 26) (by rw [← E4, xn_Ts]) (by show h4.1 + 1 = _; omega) (fun i => by rw [← E4, xn_Is]) (by show _ ≤ h4.1 + 1; omega) (fun j5 e5 f5 G5 c5 v5 => ?_)
  have f5' : j5.2.1 = h4.2.1 + 4 + 48 := f5
  refine sX10_init_54 (by rw [(G5.2 q (by omega)).1, xn_T (by omega)]; exact T4) ?_
  obtain ⟨h5, hh5⟩ : ∃ h', h' = xsP j5 q 7 (some (q + 26)) := ⟨_, rfl⟩
  rw [← hh5]
  obtain ⟨E5, S5, K5, R5, F5, I5, T5⟩ := nwO (a' := q + 32) E4 (by omega) T4 e5 G5 hh5
  have C5 := CV_r (rg_s R5 (by omega) (by omega)) c5
  have U5 := kp_r q h5
  have U4 := kp_t K5 U5
  have U3 := kp_t K4 U4
  have U2 := kp_t K3 U3
  have U1 := kp_t K2 U2
  have U0 := kp_t K1 U1
  refine sX10_init_57 rfl ?_
  refine sX10_init_58 ?_
  refine sX10_init_60 ?_
  refine sX10_init_63 rfl ?_
  refine mX10_init_64 (Nat.le_of_ble_eq_true rfl) ?_
  refine mX10_init_67 (Nat.le_of_ble_eq_true rfl) ?_
  rw [bI_m]
  refine sX10_init_70 T5 ?_
  obtain ⟨h6, hh6⟩ : ∃ h', h' = xsI h5 q 0 (nI (bI y)) := ⟨_, rfl⟩
  rw [← hh6]
  have E6 : h6.1 = q + 32 := by rw [hh6]; exact E5
  have S6 : h6.2.1 = h5.2.1 := by rw [hh6]; rfl
  have T6 : (xT h6 q).1 = 10 := by rw [hh6]; exact T5
  have P6 : xP h6 = xP h5 := by rw [hh6]; rfl
  have J6 : xI h6 q 0 = nI (bI y) := by rw [hh6]; exact xup2_s
  have K6 : kp q h5 h6 := by rw [hh6]; exact ⟨Nat.le_refl _, fun a ha => ⟨rfl, fun hn => ⟨rfl, xup2_r hn⟩⟩⟩
  refine sX10_init_73 rfl ?_
  refine sX10_init_74 (show g.2.2.1 ≤ h6.1 by omega) ?_
  rw [E6]
  refine sX10_init_77 rfl ?_
  refine sX10_init_78 rfl ?_
  refine sX10_init_79 (by rw [xn_T (by omega)]; exact T6) ?_
  rw [xn_I (h := h6) (a := q) (by omega), J6]
  refine sX10_init_82 (Nat.le_of_ble_eq_true rfl) ?_
  refine c_init7 (q := q + 32) (y := nI (bI y)) (by rw [← E6, xn_Ts]) (by show h6.1 + 1 = _; omega) (fun i => by rw [← E6, xn_Is]) (by show _ ≤ h6.1 + 1; omega) (fun j7 e7 f7 G7 c7 z7 => ?_)
  have f7' : j7.2.1 = h6.2.1 + 12 + 18990 := f7
  refine sX10_init_85 (by rw [(G7.2 q (by omega)).1, xn_T (by omega)]; exact T6) ?_
  obtain ⟨h7, hh7⟩ : ∃ h', h' = xsP j7 q 5 (some (q + 32)) := ⟨_, rfl⟩
  rw [← hh7]
  obtain ⟨E7, S7, K7, R7, F7, I7, T7⟩ := nwO (a' := q + 1258) E6 (by omega) T6 e7 G7 hh7
  have W6 := K7
  have W5 := kp_t K6 K7
  have W4 := kp_t K5 W5
  have W3 := kp_t K4 W4
  have W2 := kp_t K3 W3
  have W1 := kp_t K2 W2
  have W0 := kp_t K1 W1
  have vj : VJ (xI h7) (q + 26) v00 := VJ_c (fun r a c => by rw [((W5.2 r (by omega)).2 (by omega)).2]; exact (R5 r (by omega) (by omega)).2.2) v5
  refine sX10_init_88 (k h7 E7 (by omega) (gw_kp W0 (by omega)) ⟨T7, ⟨?_, ?_, ?_, ?_, ?_, ?_⟩, by rw [(W1.2 _ (by omega)).1]; exact A1⟩ (CW_r (rg_kp W2 (by omega) (by omega)) C2) (CPr_r (rg_kp W3 (by omega) (by omega)) C3) (CE_r (rg_kp W4 (by omega) (by omega)) C4) (CV_r (rg_kp W5 (by omega) (by omega)) C5) (CRn_r (rg_s R7 (by omega) (by omega)) c7) (by rw [I7]; exact J6) ?_ (fun i hi => ?_) (fun i hi => ?_) (fun i => ?_) vj)
  · rw [F7, if_neg (by decide), P6, F5, if_neg (by decide), F4, if_neg (by decide), F3, if_neg (by decide), F2, if_neg (by decide), F1, if_pos rfl]
  · rw [F7, if_neg (by decide), P6, F5, if_neg (by decide), F4, if_neg (by decide), F3, if_neg (by decide), F2, if_pos rfl]
  · rw [F7, if_neg (by decide), P6, F5, if_neg (by decide), F4, if_neg (by decide), F3, if_pos rfl]
  · rw [F7, if_pos rfl]
  · rw [F7, if_neg (by decide), P6, F5, if_neg (by decide), F4, if_pos rfl]
  · rw [F7, if_neg (by decide), P6, F5, if_pos rfl]
  · rw [(R7 (q + 32 + 1213) (by omega) (by omega)).2.2]; exact z7
  · rw [I7, hh6]
    show xup2 (xI h5) q 0 _ q i = 0
    rw [xup2_n (by omega), I5, I4, I3, I2, I1]; exact hI i
  · rw [((W2.2 (q + 2) (by omega)).2 (by omega)).2, (R2 (q + 2) (by omega) (by omega)).2.2]; exact y2 i hi
  · rw [((W2.2 (q + 2 + 1) (by omega)).2 (by omega)).2, (R2 (q + 2 + 1) (by omega) (by omega)).2.2]; exact z2 i
end Ctor
def rnw (k : Nat) : Nat := match k with
  | 1 => 1
  | 2 => 2
  | 3 => 3
  | 4 => 4
  | 7 => 5
  | 8 => 6
  | 9 => 7
  | 10 => 8
  | 11 => 9
  | 12 => 10
  | 13 => 11
  | 15 => 12
  | 16 => 13
  | 17 => 14
  | 33 => 15
  | 34 => 16
  | 35 => 17
  | 36 => 18
  | 37 => 19
  | 38 => 20
  | 39 => 21
  | 40 => 22
  | 41 => 23
  | _ => 0
def rfd (j : Nat) : Nat := match j with
  | 1 => 1
  | 2 => 2
  | 3 => 3
  | 4 => 4
  | 5 => 7
  | 6 => 8
  | 7 => 9
  | 8 => 10
  | 9 => 11
  | 10 => 12
  | 11 => 13
  | 12 => 15
  | 13 => 16
  | 14 => 17
  | 15 => 33
  | 16 => 34
  | 17 => 35
  | 18 => 36
  | 19 => 37
  | 20 => 38
  | 21 => 39
  | 22 => 40
  | 23 => 41
  | _ => 0
theorem rnw_f {k j : Nat} (h : rnw k = j) (hj : 0 < j) : k = rfd j := by
  subst h
  revert hj
  unfold rnw
  split <;> intro hj <;> first | rfl | omega
theorem rp_rnw (b k : Nat) : rp b k = if rnw k = 0 then none else some (b + rnw k) := by
  by_cases c1 : k = 1
  · subst c1; rfl
  by_cases c2 : k = 2
  · subst c2; rfl
  by_cases c3 : k = 3
  · subst c3; rfl
  by_cases c4 : k = 4
  · subst c4; rfl
  by_cases c7 : k = 7
  · subst c7; rfl
  by_cases c8 : k = 8
  · subst c8; rfl
  by_cases c9 : k = 9
  · subst c9; rfl
  by_cases c10 : k = 10
  · subst c10; rfl
  by_cases c11 : k = 11
  · subst c11; rfl
  by_cases c12 : k = 12
  · subst c12; rfl
  by_cases c13 : k = 13
  · subst c13; rfl
  by_cases c15 : k = 15
  · subst c15; rfl
  by_cases c16 : k = 16
  · subst c16; rfl
  by_cases c17 : k = 17
  · subst c17; rfl
  by_cases c33 : k = 33
  · subst c33; rfl
  by_cases c34 : k = 34
  · subst c34; rfl
  by_cases c35 : k = 35
  · subst c35; rfl
  by_cases c36 : k = 36
  · subst c36; rfl
  by_cases c37 : k = 37
  · subst c37; rfl
  by_cases c38 : k = 38
  · subst c38; rfl
  by_cases c39 : k = 39
  · subst c39; rfl
  by_cases c40 : k = 40
  · subst c40; rfl
  by_cases c41 : k = 41
  · subst c41; rfl
  have e : rnw k = 0 := by unfold rnw; split <;> first | rfl | omega
  rw [if_pos e]; unfold rp; split <;> first | rfl | omega
def smr : Nat → Nat
  | 0 => 0
  | n + 1 => smr n + rl (n + 1)
def IA (q : Nat) (h0 : xH) (i : Nat) (h : xH) : Prop := h.1 = q + 1 + i ∧ h.2.1 = h0.2.1 + smr i ∧ kp q h0 h ∧ (∀ j, 0 < j → j ≤ i → xT h (q + j) = (rk j, rl j) ∧ ∀ n, xI h (q + j) n = 0) ∧ (∀ k, xP h q k = if rnw k = 0 ∨ i < rnw k then none else some (q + rnw k)) ∧ xI h q = xI h0 q ∧ xT h q = xT h0 q
theorem IA_s {q i i' f kd len : Nat} {h0 h h' : xH} (a : IA q h0 i h) (hf : rnw f = i + 1) (hk : kd = rk (i + 1)) (hl : len = rl (i + 1)) (hh : h' = xsP (xnew h kd len) q f (some (q + 1 + i))) (ei : i + 1 = i') : IA q h0 i' h' := by
  subst ei
  obtain ⟨a1, a2, a3, a4, a5, a6, a7⟩ := a
  obtain ⟨E, S, K, A, Z, N, F, I, T⟩ := nwA (o := q) (a' := q + 1 + (i + 1)) (ci := (xT h q).1) a1 (by omega) rfl hh (by omega)
  refine ⟨E, ?_, kp_t a3 K, fun j j0 j1 => ?_, fun k => ?_, I.trans a6, (K.2 q (by omega)).1.trans a7⟩
  · rw [S, a2, hl]
    show _ = h0.2.1 + (smr i + rl (i + 1))
    omega
  · rcases Nat.lt_or_eq_of_le j1 with e | e
    · obtain ⟨c1, c2⟩ := K.2 (q + j) (by omega)
      obtain ⟨c3, c4⟩ := c2 (by omega)
      obtain ⟨d1, d2⟩ := a4 j j0 (by omega)
      exact ⟨c1.trans d1, fun n => by rw [c4]; exact d2 n⟩
    · subst e
      have e : q + (i + 1) = q + 1 + i := by omega
      rw [e]
      exact ⟨by rw [A, hk, hl], Z⟩
  · rw [F]
    by_cases c : k = f
    · rw [if_pos c, c, hf, if_neg (by omega), show q + (i + 1) = q + 1 + i by omega]
    · rw [if_neg c, a5]
      have n1 : rnw k ≠ i + 1 := fun z => c ((rnw_f z (by omega)).trans (rnw_f hf (by omega)).symm)
      by_cases c2 : rnw k = 0 ∨ i < rnw k
      · rw [if_pos c2, if_pos (by omega)]
      · rw [if_neg c2, if_neg (by omega)]
section Ctor2
variable {g : xG} {l : Launch} {h : xH} {Q : Option Value → xH → Prop}
theorem c_init11a {q : Nat} {y : Int32} (ht : (xT h q).1 = 11) (hq : h.1 = q + 1) (hP : ∀ i, xP h q i = none) (hlo : g.2.2.1 ≤ h.1) (k : ∀ h', IA q h 23 h' → ∀ lv0 : List (Nat × Value), (∀ z ∈ ([(0, .ref q), (1, .int y)] : List (Nat × Value)), z ∈ lv0) → aw g l mX11_init 201 lv0 [] h' Q) : ac g l mX11_init [.ref q, .int y] h Q := by
  refine ac_of (by decide) (Nat.le_of_ble_eq_true rfl) ?_
  have a0 : IA q h 0 h := ⟨hq, rfl, kp_r _ _, fun j j0 j1 => absurd j1 (by omega), fun k => by rw [hP, if_pos (by omega)], rfl, rfl⟩
  refine sX11_init_0 rfl ?_
  refine sX11_init_1 (Nat.le_of_ble_eq_true rfl) ?_
  refine sX11_init_4 rfl ?_
  refine nX11_init_5 ?_
  refine sX11_init_8 (nI_pos (by decide)) (by decide) (Nat.le_trans hlo a0.2.2.1.1) ?_
  rw [show (nI 28000).toNatClampNeg = 28000 by decide, a0.1]
  refine sX11_init_10 (by rw [xn_T (by rw [a0.1]; omega), a0.2.2.2.2.2.2]; exact ht) ?_
  obtain ⟨h1, hh1⟩ : ∃ h', h' = xsP (xnew h 100 28000) q 1 (some (q + 1 + 0)) := ⟨_, rfl⟩
  rw [← hh1]
  have a1 := IA_s (i' := 1) a0 rfl rfl rfl hh1 rfl
  clear hh1 a0
  refine sX11_init_13 rfl ?_
  refine nX11_init_14 ?_
  refine sX11_init_17 (nI_pos (by decide)) (by decide) (Nat.le_trans hlo a1.2.2.1.1) ?_
  rw [show (nI 170).toNatClampNeg = 170 by decide, a1.1]
  refine sX11_init_19 (by rw [xn_T (by rw [a1.1]; omega), a1.2.2.2.2.2.2]; exact ht) ?_
  obtain ⟨h2, hh2⟩ : ∃ h', h' = xsP (xnew h1 100 170) q 2 (some (q + 1 + 1)) := ⟨_, rfl⟩
  rw [← hh2]
  have a2 := IA_s (i' := 2) a1 rfl rfl rfl hh2 rfl
  clear hh2 a1
  refine sX11_init_22 rfl ?_
  refine nX11_init_23 ?_
  refine sX11_init_26 (nI_pos (by decide)) (by decide) (Nat.le_trans hlo a2.2.2.1.1) ?_
  rw [show (nI 1360).toNatClampNeg = 1360 by decide, a2.1]
  refine sX11_init_28 (by rw [xn_T (by rw [a2.1]; omega), a2.2.2.2.2.2.2]; exact ht) ?_
  obtain ⟨h3, hh3⟩ : ∃ h', h' = xsP (xnew h2 100 1360) q 3 (some (q + 1 + 2)) := ⟨_, rfl⟩
  rw [← hh3]
  have a3 := IA_s (i' := 3) a2 rfl rfl rfl hh3 rfl
  clear hh3 a2
  refine sX11_init_31 rfl ?_
  refine nX11_init_32 ?_
  refine sX11_init_35 (nI_pos (by decide)) (by decide) (Nat.le_trans hlo a3.2.2.1.1) ?_
  rw [show (nI 4000).toNatClampNeg = 4000 by decide, a3.1]
  refine sX11_init_37 (by rw [xn_T (by rw [a3.1]; omega), a3.2.2.2.2.2.2]; exact ht) ?_
  obtain ⟨h4, hh4⟩ : ∃ h', h' = xsP (xnew h3 100 4000) q 4 (some (q + 1 + 3)) := ⟨_, rfl⟩
  rw [← hh4]
  have a4 := IA_s (i' := 4) a3 rfl rfl rfl hh4 rfl
  clear hh4 a3
  refine sX11_init_40 rfl ?_
  refine nX11_init_41 ?_
  refine sX11_init_44 (nI_pos (by decide)) (by decide) (Nat.le_trans hlo a4.2.2.1.1) ?_
  rw [show (nI 210).toNatClampNeg = 210 by decide, a4.1]
  refine sX11_init_46 (by rw [xn_T (by rw [a4.1]; omega), a4.2.2.2.2.2.2]; exact ht) ?_
  obtain ⟨h5, hh5⟩ : ∃ h', h' = xsP (xnew h4 100 210) q 7 (some (q + 1 + 4)) := ⟨_, rfl⟩
  rw [← hh5]
  have a5 := IA_s (i' := 5) a4 rfl rfl rfl hh5 rfl
  clear hh5 a4
  refine sX11_init_49 rfl ?_
  refine nX11_init_50 ?_
  refine sX11_init_53 (nI_pos (by decide)) (by decide) (Nat.le_trans hlo a5.2.2.1.1) ?_
  rw [show (nI 210).toNatClampNeg = 210 by decide, a5.1]
  refine sX11_init_55 (by rw [xn_T (by rw [a5.1]; omega), a5.2.2.2.2.2.2]; exact ht) ?_
  obtain ⟨h6, hh6⟩ : ∃ h', h' = xsP (xnew h5 100 210) q 8 (some (q + 1 + 5)) := ⟨_, rfl⟩
  rw [← hh6]
  have a6 := IA_s (i' := 6) a5 rfl rfl rfl hh6 rfl
  clear hh6 a5
  refine sX11_init_58 rfl ?_
  refine nX11_init_59 ?_
  refine sX11_init_62 (nI_pos (by decide)) (by decide) (Nat.le_trans hlo a6.2.2.1.1) ?_
  rw [show (nI 5040).toNatClampNeg = 5040 by decide, a6.1]
  refine sX11_init_64 (by rw [xn_T (by rw [a6.1]; omega), a6.2.2.2.2.2.2]; exact ht) ?_
  obtain ⟨h7, hh7⟩ : ∃ h', h' = xsP (xnew h6 100 5040) q 9 (some (q + 1 + 6)) := ⟨_, rfl⟩
  rw [← hh7]
  have a7 := IA_s (i' := 7) a6 rfl rfl rfl hh7 rfl
  clear hh7 a6
  refine sX11_init_67 rfl ?_
  refine nX11_init_68 ?_
  refine sX11_init_71 (nI_pos (by decide)) (by decide) (Nat.le_trans hlo a7.2.2.1.1) ?_
  rw [show (nI 210).toNatClampNeg = 210 by decide, a7.1]
  refine sX11_init_73 (by rw [xn_T (by rw [a7.1]; omega), a7.2.2.2.2.2.2]; exact ht) ?_
  obtain ⟨h8, hh8⟩ : ∃ h', h' = xsP (xnew h7 100 210) q 10 (some (q + 1 + 7)) := ⟨_, rfl⟩
  rw [← hh8]
  have a8 := IA_s (i' := 8) a7 rfl rfl rfl hh8 rfl
  clear hh8 a7
  refine sX11_init_76 rfl ?_
  refine nX11_init_77 ?_
  refine sX11_init_80 (nI_pos (by decide)) (by decide) (Nat.le_trans hlo a8.2.2.1.1) ?_
  rw [show (nI 210).toNatClampNeg = 210 by decide, a8.1]
  refine sX11_init_82 (by rw [xn_T (by rw [a8.1]; omega), a8.2.2.2.2.2.2]; exact ht) ?_
  obtain ⟨h9, hh9⟩ : ∃ h', h' = xsP (xnew h8 100 210) q 11 (some (q + 1 + 8)) := ⟨_, rfl⟩
  rw [← hh9]
  have a9 := IA_s (i' := 9) a8 rfl rfl rfl hh9 rfl
  clear hh9 a8
  refine sX11_init_85 rfl ?_
  refine nX11_init_86 ?_
  refine sX11_init_89 (nI_pos (by decide)) (by decide) (Nat.le_trans hlo a9.2.2.1.1) ?_
  rw [show (nI 210).toNatClampNeg = 210 by decide, a9.1]
  refine sX11_init_91 (by rw [xn_T (by rw [a9.1]; omega), a9.2.2.2.2.2.2]; exact ht) ?_
  obtain ⟨h10, hh10⟩ : ∃ h', h' = xsP (xnew h9 100 210) q 12 (some (q + 1 + 9)) := ⟨_, rfl⟩
  rw [← hh10]
  have a10 := IA_s (i' := 10) a9 rfl rfl rfl hh10 rfl
  clear hh10 a9
  refine sX11_init_94 rfl ?_
  refine nX11_init_95 ?_
  refine sX11_init_97 (nI_pos (by decide)) (by decide) (Nat.le_trans hlo a10.2.2.1.1) ?_
  rw [show (nI 90000).toNatClampNeg = 90000 by decide, a10.1]
  refine sX11_init_99 (by rw [xn_T (by rw [a10.1]; omega), a10.2.2.2.2.2.2]; exact ht) ?_
  obtain ⟨h11, hh11⟩ : ∃ h', h' = xsP (xnew h10 100 90000) q 13 (some (q + 1 + 10)) := ⟨_, rfl⟩
  rw [← hh11]
  have a11 := IA_s (i' := 11) a10 rfl rfl rfl hh11 rfl
  clear hh11 a10
  refine sX11_init_102 rfl ?_
  refine nX11_init_103 ?_
  refine sX11_init_106 (nI_pos (by decide)) (by decide) (Nat.le_trans hlo a11.2.2.1.1) ?_
  rw [show (nI 210).toNatClampNeg = 210 by decide, a11.1]
  refine sX11_init_108 (by rw [xn_T (by rw [a11.1]; omega), a11.2.2.2.2.2.2]; exact ht) ?_
  obtain ⟨h12, hh12⟩ : ∃ h', h' = xsP (xnew h11 100 210) q 15 (some (q + 1 + 11)) := ⟨_, rfl⟩
  rw [← hh12]
  have a12 := IA_s (i' := 12) a11 rfl rfl rfl hh12 rfl
  clear hh12 a11
  refine sX11_init_111 rfl ?_
  refine nX11_init_112 ?_
  refine sX11_init_115 (nI_pos (by decide)) (by decide) (Nat.le_trans hlo a12.2.2.1.1) ?_
  rw [show (nI 210).toNatClampNeg = 210 by decide, a12.1]
  refine sX11_init_117 (by rw [xn_T (by rw [a12.1]; omega), a12.2.2.2.2.2.2]; exact ht) ?_
  obtain ⟨h13, hh13⟩ : ∃ h', h' = xsP (xnew h12 100 210) q 16 (some (q + 1 + 12)) := ⟨_, rfl⟩
  rw [← hh13]
  have a13 := IA_s (i' := 13) a12 rfl rfl rfl hh13 rfl
  clear hh13 a12
  refine sX11_init_120 rfl ?_
  refine nX11_init_121 ?_
  refine sX11_init_124 (nI_pos (by decide)) (by decide) (Nat.le_trans hlo a13.2.2.1.1) ?_
  rw [show (nI 210).toNatClampNeg = 210 by decide, a13.1]
  refine sX11_init_126 (by rw [xn_T (by rw [a13.1]; omega), a13.2.2.2.2.2.2]; exact ht) ?_
  obtain ⟨h14, hh14⟩ : ∃ h', h' = xsP (xnew h13 100 210) q 17 (some (q + 1 + 13)) := ⟨_, rfl⟩
  rw [← hh14]
  have a14 := IA_s (i' := 14) a13 rfl rfl rfl hh14 rfl
  clear hh14 a13
  refine sX11_init_129 rfl ?_
  refine nX11_init_130 ?_
  refine sX11_init_132 (nI_pos (by decide)) (by decide) (Nat.le_trans hlo a14.2.2.1.1) ?_
  rw [show (nI 21).toNatClampNeg = 21 by decide, a14.1]
  refine sX11_init_134 (by rw [xn_T (by rw [a14.1]; omega), a14.2.2.2.2.2.2]; exact ht) ?_
  obtain ⟨h15, hh15⟩ : ∃ h', h' = xsP (xnew h14 102 21) q 33 (some (q + 1 + 14)) := ⟨_, rfl⟩
  rw [← hh15]
  have a15 := IA_s (i' := 15) a14 rfl rfl rfl hh15 rfl
  clear hh15 a14
  refine sX11_init_137 rfl ?_
  refine nX11_init_138 ?_
  refine sX11_init_140 (nI_pos (by decide)) (by decide) (Nat.le_trans hlo a15.2.2.1.1) ?_
  rw [show (nI 21).toNatClampNeg = 21 by decide, a15.1]
  refine sX11_init_142 (by rw [xn_T (by rw [a15.1]; omega), a15.2.2.2.2.2.2]; exact ht) ?_
  obtain ⟨h16, hh16⟩ : ∃ h', h' = xsP (xnew h15 102 21) q 34 (some (q + 1 + 15)) := ⟨_, rfl⟩
  rw [← hh16]
  have a16 := IA_s (i' := 16) a15 rfl rfl rfl hh16 rfl
  clear hh16 a15
  refine sX11_init_145 rfl ?_
  refine nX11_init_146 ?_
  refine sX11_init_148 (nI_pos (by decide)) (by decide) (Nat.le_trans hlo a16.2.2.1.1) ?_
  rw [show (nI 21).toNatClampNeg = 21 by decide, a16.1]
  refine sX11_init_150 (by rw [xn_T (by rw [a16.1]; omega), a16.2.2.2.2.2.2]; exact ht) ?_
  obtain ⟨h17, hh17⟩ : ∃ h', h' = xsP (xnew h16 102 21) q 35 (some (q + 1 + 16)) := ⟨_, rfl⟩
  rw [← hh17]
  have a17 := IA_s (i' := 17) a16 rfl rfl rfl hh17 rfl
  clear hh17 a16
  refine sX11_init_153 rfl ?_
  refine nX11_init_154 ?_
  refine sX11_init_156 (nI_pos (by decide)) (by decide) (Nat.le_trans hlo a17.2.2.1.1) ?_
  rw [show (nI 21).toNatClampNeg = 21 by decide, a17.1]
  refine sX11_init_158 (by rw [xn_T (by rw [a17.1]; omega), a17.2.2.2.2.2.2]; exact ht) ?_
  obtain ⟨h18, hh18⟩ : ∃ h', h' = xsP (xnew h17 102 21) q 36 (some (q + 1 + 17)) := ⟨_, rfl⟩
  rw [← hh18]
  have a18 := IA_s (i' := 18) a17 rfl rfl rfl hh18 rfl
  clear hh18 a17
  refine sX11_init_161 rfl ?_
  refine nX11_init_162 ?_
  refine sX11_init_164 (nI_pos (by decide)) (by decide) (Nat.le_trans hlo a18.2.2.1.1) ?_
  rw [show (nI 21).toNatClampNeg = 21 by decide, a18.1]
  refine sX11_init_166 (by rw [xn_T (by rw [a18.1]; omega), a18.2.2.2.2.2.2]; exact ht) ?_
  obtain ⟨h19, hh19⟩ : ∃ h', h' = xsP (xnew h18 100 21) q 37 (some (q + 1 + 18)) := ⟨_, rfl⟩
  rw [← hh19]
  have a19 := IA_s (i' := 19) a18 rfl rfl rfl hh19 rfl
  clear hh19 a18
  refine sX11_init_169 rfl ?_
  refine nX11_init_170 ?_
  refine sX11_init_172 (nI_pos (by decide)) (by decide) (Nat.le_trans hlo a19.2.2.1.1) ?_
  rw [show (nI 21).toNatClampNeg = 21 by decide, a19.1]
  refine sX11_init_174 (by rw [xn_T (by rw [a19.1]; omega), a19.2.2.2.2.2.2]; exact ht) ?_
  obtain ⟨h20, hh20⟩ : ∃ h', h' = xsP (xnew h19 100 21) q 38 (some (q + 1 + 19)) := ⟨_, rfl⟩
  rw [← hh20]
  have a20 := IA_s (i' := 20) a19 rfl rfl rfl hh20 rfl
  clear hh20 a19
  refine sX11_init_177 rfl ?_
  refine nX11_init_178 ?_
  refine sX11_init_180 (nI_pos (by decide)) (by decide) (Nat.le_trans hlo a20.2.2.1.1) ?_
  rw [show (nI 21).toNatClampNeg = 21 by decide, a20.1]
  refine sX11_init_182 (by rw [xn_T (by rw [a20.1]; omega), a20.2.2.2.2.2.2]; exact ht) ?_
  obtain ⟨h21, hh21⟩ : ∃ h', h' = xsP (xnew h20 100 21) q 39 (some (q + 1 + 20)) := ⟨_, rfl⟩
  rw [← hh21]
  have a21 := IA_s (i' := 21) a20 rfl rfl rfl hh21 rfl
  clear hh21 a20
  refine sX11_init_185 rfl ?_
  refine nX11_init_186 ?_
  refine sX11_init_188 (nI_pos (by decide)) (by decide) (Nat.le_trans hlo a21.2.2.1.1) ?_
  rw [show (nI 21).toNatClampNeg = 21 by decide, a21.1]
  refine sX11_init_190 (by rw [xn_T (by rw [a21.1]; omega), a21.2.2.2.2.2.2]; exact ht) ?_
  obtain ⟨h22, hh22⟩ : ∃ h', h' = xsP (xnew h21 100 21) q 40 (some (q + 1 + 21)) := ⟨_, rfl⟩
  rw [← hh22]
  have a22 := IA_s (i' := 22) a21 rfl rfl rfl hh22 rfl
  clear hh22 a21
  refine sX11_init_193 rfl ?_
  refine nX11_init_194 ?_
  refine sX11_init_196 (nI_pos (by decide)) (by decide) (Nat.le_trans hlo a22.2.2.1.1) ?_
  rw [show (nI 21).toNatClampNeg = 21 by decide, a22.1]
  refine sX11_init_198 (by rw [xn_T (by rw [a22.1]; omega), a22.2.2.2.2.2.2]; exact ht) ?_
  obtain ⟨h23, hh23⟩ : ∃ h', h' = xsP (xnew h22 100 21) q 41 (some (q + 1 + 22)) := ⟨_, rfl⟩
  rw [← hh23]
  have a23 := IA_s (i' := 23) a22 rfl rfl rfl hh23 rfl
  clear hh23 a22
  exact k _ a23 _ (fun z hz => by simp only [List.mem_cons, List.not_mem_nil, or_false] at hz; rcases hz with rfl | rfl <;> exact xlk_mem rfl)
theorem c_init11 {q : Nat} {y : Int32} (ht : xT h q = (11, 48)) (hq : h.1 = q + 1) (hI : ∀ i, xI h q i = 0) (hP : ∀ i, xP h q i = none) (hlo : g.2.2.1 ≤ h.1) (k : ∀ h' K N S, h'.1 = q + 24 → h'.2.1 = h.2.1 + 130439 → gw q h h' → RS h' q → RX K N S → S 67 = v00 → K 0 0 = nI (bI y) → (∀ i, 0 < i → K 0 i = 0) → Q none (xB h' q K)) : ac g l mX11_init [.ref q, .int y] h Q := by
  refine c_init11a (by rw [ht]) hq hP hlo (fun h23 a lv1 hlv1 => ?_)
  refine aw_lv hlv1 ?_
  obtain ⟨E23, S23, K23, X23, P23, I23, T23⟩ := a
  have hS : RS h23 q := ⟨T23.trans ht, fun j => by
    rw [P23, rp_rnw]
    by_cases c : rnw j = 0
    · rw [if_pos (Or.inl c), if_pos c]
    · have : rnw j ≤ 23 := by unfold rnw; split <;> decide
      rw [if_neg (by omega), if_neg c], fun j j0 j1 => (X23 j j0 (by omega)).1⟩
  have z : ∀ j i, j < 24 → xI h23 (q + j) i = 0 := fun j i hj => by
    rcases Nat.eq_zero_or_pos j with e | e
    · subst e; show xI h23 q i = 0; rw [I23]; exact hI i
    · exact (X23 j e (by omega)).2 i
  have S23' : h23.2.1 = h.2.1 + 130439 := S23
  replace T23 : (xT h23 q).1 = 11 := by rw [T23, ht]
  rw [← xB_id h23 q]
  obtain ⟨K, hK⟩ : ∃ K : Nat → Nat → Int32, K = fun j i => xI h23 (q + j) i := ⟨_, rfl⟩
  rw [← hK]
  have zK : ∀ j i, j < 24 → K j i = 0 := fun j i hj => by rw [hK]; exact z j i hj
  have fin : ∀ lv0 : List (Nat × Value), (∀ z ∈ ([(0, .ref q)] : List (Nat × Value)), z ∈ lv0) → aw g l mX11_init 227 lv0 [.int (nI (bI y)), .ref q] (xB h23 q K) Q := by
    intro lv0 hlv
    refine aw_lv hlv ?_
    refine sX11_init_227 (show (xT h23 q).1 = 11 from T23) ?_
    rw [xB_wr0]
    obtain ⟨K1, hK1⟩ : ∃ K1 : Nat → Nat → Int32, K1 = xup2 K 0 0 (nI (bI y)) := ⟨_, rfl⟩
    rw [← hK1]
    have z1 : ∀ j i, 0 < j → j < 24 → K1 j i = 0 := fun j i h0 hj => by rw [hK1, xup2_r (by omega)]; exact zK j i hj
    have rx : RX K1 (fun _ => 0) (fun _ => (0, 0, 0, fun _ => 0)) := ⟨fun n hn => ⟨Nat.pow_pos (by decide), fun k hk => by rw [z1 _ _ (by decide) (by decide)]; rw [show zg 0 k = 0 from by simp [zg, zh]]; rfl⟩, fun w hw => ⟨rfl, rfl, z1 _ _ (by decide) (by decide), fun j hj => z1 _ _ (by decide) (by decide)⟩⟩
    refine sX11_init_230 rfl ?_
    refine nX11_init_231 ?_
    refine tX11_init_233 hS (Nat.le_of_ble_eq_true rfl) ?_
    refine c_setOne hS rx (by decide) (fun K2 N2 x2 rx2 => ?_)
    refine sX11_init_236 rfl ?_
    refine nX11_init_237 ?_
    refine tX11_init_240 hS (Nat.le_of_ble_eq_true rfl) ?_
    refine c_clear hS rx2.1 (by decide) (fun K3 x3 n3 => ?_)
    have rx3 := RX_num (v := 67) (y := 0) rx2 x3 n3
    refine sX11_init_243 rfl ?_
    refine sX11_init_244 (show (xT h23 q).1 = 11 from T23) (show xP h23 q 2 = some (q + 2) from hS.2.1 2) ?_
    refine nX11_init_247 ?_
    refine nX11_init_249 ?_
    refine sX11_init_250 (show (xT h23 (q + 2)).1 = 100 by rw [hS.2.2 2 (by decide) (by decide)]; rfl) (show vp_in _ (xT h23 (q + 2)).2 by rw [hS.2.2 2 (by decide) (by decide)]; exact vp_in_nI (by decide) (by decide)) ?_
    rw [nI_clamp (show 67 < 2 ^ 31 by decide), xB_wr _ _ _ (by decide)]
    have rx4 := RX_sgn (v := 67) (s := nI 0) rx3
    refine sX11_init_251 (k h23 _ _ _ (by omega) S23' (gw_kp K23 (by omega)) hS rx4 ?_ ?_ (fun i hi => ?_))
    · rw [vup_s, vup_s, vup_s]; rfl
    · rw [xup2_r (by decide), x3 0 (by decide), x2 0 (by decide) (by decide) (by decide), hK1, xup2_s]
    · rw [xup2_r (by decide), x3 0 (by decide), x2 0 (by decide) (by decide) (by decide), hK1, xup2_n (by omega)]; exact zK 0 i (by decide)
  refine sX11_init_201 rfl ?_
  refine sX11_init_202 rfl ?_
  refine sX11_init_203 ?_
  refine sX11_init_205 (fun a1 => ?_) (fun a1 => ?_)
  · refine sX11_init_213 rfl ?_
    refine sX11_init_214 ?_
    refine sX11_init_217 (fun a2 => ?_) (fun a2 => ?_)
    · refine sX11_init_226 rfl ?_
      have e := bI_n y (by rw [← ble]; exact a1) (by rw [← ble]; exact a2)
      rw [← e] at fin
      exact fin _ (fun z hz => by simp only [List.mem_cons, List.not_mem_nil, or_false] at hz; rcases hz with rfl <;> exact xlk_mem rfl)
    · rw [show bI y = 512 by unfold bI; rw [if_neg (by rw [← ble]; exact a1), if_pos (by rw [ble] at a2; exact Decidable.not_not.mp a2)]] at fin
      refine nX11_init_220 ?_
      refine sX11_init_223 ?_
      exact fin _ (fun z hz => by simp only [List.mem_cons, List.not_mem_nil, or_false] at hz; rcases hz with rfl <;> exact xlk_mem rfl)
  · rw [show bI y = 16 by unfold bI; rw [if_pos (by rw [ble] at a1; exact Decidable.not_not.mp a1)]] at fin
    refine nX11_init_208 ?_
    refine sX11_init_210 ?_
    exact fin _ (fun z hz => by simp only [List.mem_cons, List.not_mem_nil, or_false] at hz; rcases hz with rfl <;> exact xlk_mem rfl)
end Ctor2
