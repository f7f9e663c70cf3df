/-! ===== the steps of both sides ===== -/
theorem n01 {n : Int32} (h : ¬ n < 0) (n0 : n ≠ 0) (n1 : n ≠ 1) : ¬ n ≤ 1 := by
  rcases i32c n with z | ⟨j, rfl, hj⟩
  · exact absurd z h
  · intro w
    have w' : j ≤ 1 := (nI_leI hj (by decide)).mp w
    rcases Nat.lt_or_eq_of_le w' with e | e
    · exact n0 (by rw [show j = 0 by omega]; rfl)
    · exact n1 (by rw [e]; rfl)
theorem nIp {j : Nat} (hj : j < 2 ^ 31) : ¬ nI j < 0 := nI_pos hj
section Dig
variable {g : xG} {l : Launch} {h : xH} {b : Nat} {K : Nat → Nat → Int32} {Q : Option Value → xH → Prop}
theorem c_digits11z {n : Int32} (n0 : n ≠ 0) (n1 : n ≠ 1) (k : Q (some (.int (-1))) (xB h b K)) : ac g l mX11_digits [.ref b, .int n] (xB h b K) Q := by
  refine ac_of (by decide) (Nat.le_of_ble_eq_true rfl) ?_
  refine sX11_digits_0 rfl ?_
  refine sX11_digits_1 (fun _ => ?_) (fun z => ?_)
  · refine sX11_digits_9 ?_
    exact sX11_digits_10 k
  · refine sX11_digits_4 rfl ?_
    refine sX11_digits_5 ?_
    refine sX11_digits_6 (fun w => absurd w (n01 z n0 n1)) (fun _ => ?_)
    refine sX11_digits_9 ?_
    exact sX11_digits_10 k
theorem c_digit11z {n i : Int32} (n0 : n ≠ 0) (n1 : n ≠ 1) (k : Q (some (.int (-1))) (xB h b K)) : ac g l mX11_digit [.ref b, .int n, .int i] (xB h b K) Q := by
  refine ac_of (by decide) (Nat.le_of_ble_eq_true rfl) ?_
  refine sX11_digit_0 rfl ?_
  refine sX11_digit_1 (fun _ => ?_) (fun z => ?_)
  · refine sX11_digit_22 ?_
    exact sX11_digit_23 k
  · refine sX11_digit_4 rfl ?_
    refine sX11_digit_5 ?_
    refine sX11_digit_6 (fun _ => ?_) (fun w => absurd ((ble n 1).mpr w) (n01 z n0 n1))
    refine sX11_digit_22 ?_
    exact sX11_digit_23 k
end Dig
theorem RX_67 {K : Nat → Nat → Int32} {N : Nat → Nat} {S : Nat → Vl} {V : Vl} (rx : RX K N S) (s : S 67 = V) : N 134 = V.2.1 ∧ N 135 = V.2.2.1 := by
  obtain ⟨a, b, -⟩ := rx.2 67 (by decide)
  rw [s] at a b
  exact ⟨a, b⟩
theorem RX_p {K : Nat → Nat → Int32} {N : Nat → Nat} {S : Nat → Vl} {V : Vl} {p : Nat} (rx : RX K N S) (s : S 67 = V) (hp : p < 2) : N (134 + p) = pv2 p V := by
  obtain ⟨a, b⟩ := RX_67 rx s
  unfold pv2
  by_cases z : p = 0
  · rw [if_pos z, z]; exact a
  · rw [if_neg z, show p = 1 by omega]; exact b
section Steps2
variable {g : xG} {l : Launch} {h : xH} {J : Nat → Nat → Int32} {x n s0 len : Nat} {xs : Nat → Int32}
theorem bo_feed {a1 a2 a3 a4 a5 : Int32} (hL : LI g x s0 len xs n (xJ h J)) : bo g l x s0 len xs n mX10_feed mX11_feed [.int a1, .int a2, .int a3, .int a4, .int a5] (xJ h J) := by
  have hL0 := hL
  obtain ⟨h', J', e, sc, hs, L, L', B, c, D, T, E, ts, tp, V, fl, gv, hI, hR, hK, hp, hn, h7⟩ := hL
  rw [e] at hL0 sc ⊢
  have hI0 := hI
  obtain ⟨hS, hptr, ⟨b0, b1, B16, B512⟩, hten, ⟨e2, ts4, htp⟩, hD, hB, hE, ⟨hV, wV⟩, e8, e10⟩ := hI
  obtain ⟨gx, hxH, hHh, hW, hQ, hCR, lay⟩ := CS_x hS
  refine c_feed10 hS.1 e2 ts4 (fun hz => ⟨-1, rfl, sc, ?_⟩) (fun hz J1 o ox o2 ot on => ?_)
  · exact rfB (c_feed11 hR.1 hR.2.2.2.1.1 ts4 (fun _ => ⟨rfl, LI_s hL0⟩) (fun z => absurd z (by omega)))
  · have jf : JF x (x + 1282) J' J1 := fun r hr => o r (by omega) (by omega)
    have sc1 := SC_m (HF_r x h') jf hHh hs sc
    have hR1 := RI_m (HF_r x h') jf hHh hR
    refine ⟨nI (ts + 20), rfl, sc1, ?_⟩
    refine rfB (c_feed11 hR1.1 hR1.2.2.2.1.1 ts4 (fun z => absurd z (by omega)) (fun _ K1 p px p5 pt pn => ⟨rfl, ?_⟩))
    refine LI_e (tp := fun i => if i < ts then tp i else fB a1 a2 a3 a4 a5 (i - ts)) (ts := ts + 20) sc1 hs (CI_t o ox o2 hz (fun i hi => ?_) hI0) (RI_t p px p5 (fun i hi => ?_) hR1) hK hp (by omega) h7
    · by_cases z : i < ts
      · rw [ot i z]
        show J' (x + 1) i = sb (if i < ts then tp i else fB a1 a2 a3 a4 a5 (i - ts)) ∧ (if i < ts then tp i else fB a1 a2 a3 a4 a5 (i - ts)) < 256
        rw [if_pos z]; exact htp i z
      · have := on (i - ts) (by omega)
        rw [show ts + (i - ts) = i by omega] at this
        show J1 (x + 1) i = sb (if i < ts then tp i else fB a1 a2 a3 a4 a5 (i - ts)) ∧ (if i < ts then tp i else fB a1 a2 a3 a4 a5 (i - ts)) < 256
        rw [if_neg z]; exact ⟨this, bB_lt _ _⟩
    · show K1 4 i = nI (if i < ts then tp i else fB a1 a2 a3 a4 a5 (i - ts))
      by_cases z : i < ts
      · rw [if_pos z, pt i z]; exact hR1.2.2.2.1.2 i z
      · have := pn (i - ts) (by omega)
        rw [show ts + (i - ts) = i by omega] at this
        rw [if_neg z]; exact this
theorem bo_cut {a : Int32} (hL : LI g x s0 len xs n (xJ h J)) : bo g l x s0 len xs n mX10_cut mX11_cut [.int a] (xJ h J) := by
  have hL0 := hL
  obtain ⟨h', J', e, sc, hs, L, L', B, c, D, T, E, ts, tp, V, fl, gv, hI, hR, hK, hp, hn, h7⟩ := hL
  rw [e] at hL0 sc ⊢
  have hI0 := hI
  obtain ⟨hS, hptr, ⟨b0, b1, B16, B512⟩, hten, ⟨e2, ts4, htp⟩, hD, hB, hE, ⟨hV, wV⟩, e8, e10⟩ := hI
  obtain ⟨gx, hxH, hHh, hW, hQ, hCR, lay⟩ := CS_x hS
  have no : (a < 0 ∨ ∃ j, a = nI j ∧ ts < j ∧ j < 2 ^ 31) → ∀ j, a = nI j → j ≤ ts → False := fun z j ej hj => by
    rcases z with z | ⟨j2, e2, z1, z2⟩
    · rw [ej] at z; exact nIp (by omega) z
    · have : j = j2 := (nI_eq (by omega) (by omega)).mp (ej.symm.trans e2)
      omega
  refine c_cut10 hS.1 e2 ts4 (fun z => ⟨-1, rfl, sc, ?_⟩) (fun j ej hj => ?_)
  · exact rfB (c_cut11 hR.1 hR.2.2.2.1.1 ts4 (fun _ => ⟨rfl, LI_s hL0⟩) (fun j ej hj => (no z j ej hj).elim))
  · have jf : JF x (x + 1282) J' (xup2 J' x 2 (nI j)) := fun r hr => xup2_r (by omega)
    have sc1 := SC_m (HF_r x h') jf hHh hs sc
    have hR1 := RI_m (HF_r x h') jf hHh hR
    refine ⟨nI (ts - j), rfl, sc1, ?_⟩
    refine rfB (c_cut11 hR1.1 hR1.2.2.2.1.1 ts4 (fun z => (no z j ej hj).elim) (fun j2 ej2 hj2 => ?_))
    have : j2 = j := (nI_eq (by omega) (by omega)).mp (ej2.symm.trans ej)
    subst this
    refine ⟨rfl, ?_⟩
    refine LI_e (tp := tp) (ts := j2) sc1 hs (CI_t (fun r r1 r2 => xup2_r r1) (fun i hi => xup2_n hi) xup2_s (by omega) (fun i hi => ?_) hI0) (RI_t (fun r r1 r2 => xup2_r r1) (fun i hi => xup2_n hi) xup2_s (fun i hi => ?_) hR1) hK hp (by omega) h7
    · rw [xup2_r (by omega)]; exact htp i (by omega)
    · rw [xup2_r (by decide)]; exact hR1.2.2.2.1.2 i (by omega)
theorem bo_digits {a : Int32} (hL : LI g x s0 len xs n (xJ h J)) : bo g l x s0 len xs n mX10_digits mX11_digits [.int a] (xJ h J) := by
  have hL0 := hL
  obtain ⟨h', J', e, sc, hs, L, L', B, c, D, T, E, ts, tp, V, fl, gv, hI, hR, hK, hp, hn, h7⟩ := hL
  rw [e] at hL0 sc ⊢
  have hI0 := hI
  obtain ⟨hS, hptr, ⟨b0, b1, B16, B512⟩, hten, ⟨e2, ts4, htp⟩, hD, hB, hE, ⟨hV, wV⟩, e8, e10⟩ := hI
  obtain ⟨gx, hxH, hHh, hW, hQ, hCR, lay⟩ := CS_x hS
  refine c_digits10 hS.1 hS.2.2.2 hS.2.2.1 hV wV ⟨hS.2.1.2.2.2.2.2.2, hten⟩ gx (fun n0 n1 => ⟨-1, rfl, sc, ?_⟩) (fun p ep hp2 J1 cn o dgc => ?_)
  · exact rfB (c_digits11z n0 n1 ⟨rfl, LI_s hL0⟩)
  · have jf : JF x (x + 1282) J' J1 := fun r hr => o r (by omega)
    have sc1 := SC_m (HF_r x h') jf hHh hs sc
    have hR1 := RI_m (HF_r x h') jf hHh hR
    refine ⟨nI cn, rfl, sc1, ?_⟩
    subst ep
    obtain ⟨N, S, rx, s67, rk⟩ := hR1.2.2.1
    refine rfB (c_digits11 (v := pv2 p V) hR1.1 rx.1 hp2 (RX_p rx s67 hp2) (pv2_lt wV) (fun K1 N1 n1 ho hN hz dg1 => ⟨by rw [dg_un dg1 dgc], ?_⟩))
    exact LI_e sc1 hs (CI_c (fun r r1 _ => o r r1) hI0) (RI_1 ho hN hz rx s67 rk hR1) hK hp (by omega) h7
theorem bo_digit {a d : Int32} (hL : LI g x s0 len xs n (xJ h J)) : bo g l x s0 len xs n mX10_digit mX11_digit [.int a, .int d] (xJ h J) := by
  have hL0 := hL
  obtain ⟨h', J', e, sc, hs, L, L', B, c, D, T, E, ts, tp, V, fl, gv, hI, hR, hK, hp, hn, h7⟩ := hL
  rw [e] at hL0 sc ⊢
  have hI0 := hI
  obtain ⟨hS, hptr, ⟨b0, b1, B16, B512⟩, hten, ⟨e2, ts4, htp⟩, hD, hB, hE, ⟨hV, wV⟩, e8, e10⟩ := hI
  obtain ⟨gx, hxH, hHh, hW, hQ, hCR, lay⟩ := CS_x hS
  have no : ∀ {cn q : Nat}, cn ≤ 162 → (d < 0 ∨ ∃ q, d = nI q ∧ q < 2 ^ 31 ∧ cn ≤ q) → d = nI q → q < cn → False := fun {cn q} h162 z eq hq => by
    rcases z with z | ⟨q2, e2, z1, z2⟩
    · rw [eq] at z; exact nIp (by omega) z
    · have : q = q2 := (nI_eq (by omega) (by omega)).mp (eq.symm.trans e2)
      omega
  refine c_digit10 hS.1 hS.2.2.2 hS.2.2.1 hV wV ⟨hS.2.1.2.2.2.2.2.2, hten⟩ gx (fun n0 n1 => ⟨-1, rfl, sc, ?_⟩) (fun p cn ep hp2 dgc h162 hd J1 o => ?_) (fun p cn q ep hp2 dgc eq hq h162 J1 o => ?_)
  · exact rfB (c_digit11z n0 n1 ⟨rfl, LI_s hL0⟩)
  · have jf : JF x (x + 1282) J' J1 := fun r hr => o r (by omega)
    have sc1 := SC_m (HF_r x h') jf hHh hs sc
    have hR1 := RI_m (HF_r x h') jf hHh hR
    refine ⟨-1, rfl, sc1, ?_⟩
    subst ep
    obtain ⟨N, S, rx, s67, rk⟩ := hR1.2.2.1
    refine rfB (c_digit11 (v := pv2 p V) (q := 0) hR1.1 rx.1 hp2 (RX_p rx s67 hp2) (pv2_lt wV) (fun cn1 dg1 hd1 K1 N1 ho hN hz => ⟨rfl, ?_⟩) (fun cn1 q1 dg1 eq1 hq1 K1 N1 ho hN hz => ?_) ⟨cn, dgc⟩)
    · exact LI_e sc1 hs (CI_c (fun r r1 _ => o r r1) hI0) (RI_1 ho hN hz rx s67 rk hR1) hK hp (by omega) h7
    · rw [dg_un dg1 dgc] at hq1
      exact (no h162 hd eq1 hq1).elim
  · have jf : JF x (x + 1282) J' J1 := fun r hr => o r (by omega)
    have sc1 := SC_m (HF_r x h') jf hHh hs sc
    have hR1 := RI_m (HF_r x h') jf hHh hR
    refine ⟨_, rfl, sc1, ?_⟩
    subst ep
    obtain ⟨N, S, rx, s67, rk⟩ := hR1.2.2.1
    refine rfB (c_digit11 (v := pv2 p V) (q := 0) hR1.1 rx.1 hp2 (RX_p rx s67 hp2) (pv2_lt wV) (fun cn1 dg1 hd1 K1 N1 ho hN hz => ?_) (fun cn1 q1 dg1 eq1 hq1 K1 N1 ho hN hz => ⟨?_, ?_⟩) ⟨cn, dgc⟩)
    · rw [dg_un dg1 dgc] at hd1
      exact (no h162 hd1 eq hq).elim
    · rw [dg_un dg1 dgc] at hq1
      have : q1 = q := (nI_eq (by omega) (by omega)).mp (eq1.symm.trans eq)
      rw [this]
    · exact LI_e sc1 hs (CI_c (fun r r1 _ => o r r1) hI0) (RI_1 ho hN hz rx s67 rk hR1) hK hp (by omega) h7
theorem bo_point {a : Int32} (hL : LI g x s0 len xs n (xJ h J)) : bo g l x s0 len xs n mX10_point mX11_point [.int a] (xJ h J) := by
  have hL0 := hL
  obtain ⟨h', J', e, sc, hs, L, L', B, c, D, T, E, ts, tp, V, fl, gv, hI, hR, hK, hp, hn, h7⟩ := hL
  rw [e] at hL0 sc ⊢
  have hI0 := hI
  obtain ⟨hS, hptr, ⟨b0, b1, B16, B512⟩, hten, ⟨e2, ts4, htp⟩, hD, hB, hE, ⟨hV, wV⟩, e8, e10⟩ := hI
  obtain ⟨gx, hxH, hHh, hW, hQ, hCR, lay⟩ := CS_x hS
  refine c_point10 hS.1 hS.2.2.2 hS.2.2.1 (CR_f hCR) hV wV ⟨hS.2.1.2.2.2.2.2.2, hten⟩ gx (fun z => ⟨-1, rfl, sc, ?_⟩) (fun j J1 ej j1 j2 o => ?_)
  · obtain ⟨N, S, rx, s67, rk⟩ := hR.2.2.1
    exact rfB (c_point11 hR.1 rx.1 (RX_67 rx s67).1 (RX_67 rx s67).2 wV.1 wV.2.2.1 (fun _ => ⟨rfl, LI_s hL0⟩) (fun j ej j1 j2 => absurd ej (z j j1 j2)))
  · have jf : JF x (x + 1282) J' J1 := fun r hr => o r (by omega) (by omega) (by omega) (by omega) (by omega)
    have sc1 := SC_m (HF_r x h') jf hHh hs sc
    have hR1 := RI_m (HF_r x h') jf hHh hR
    refine ⟨_, rfl, sc1, ?_⟩
    obtain ⟨N, S, rx, s67, rk⟩ := hR1.2.2.1
    refine rfB (c_point11 hR1.1 rx.1 (RX_67 rx s67).1 (RX_67 rx s67).2 wV.1 wV.2.2.1 (fun z => absurd ej (z j j1 j2)) (fun i ei i1 i2 K1 N1 ho hN hz => ⟨?_, ?_⟩))
    · have : i = j := (nI_eq (by omega) (by omega)).mp (ei.symm.trans ej)
      rw [this]
    · exact LI_e sc1 hs (CI_c (fun r r1 r2 => o r r1 (by omega) (by omega) (by omega) (by omega)) hI0) (RI_1 ho hN hz rx s67 rk hR1) hK hp (by omega) h7
theorem bo_ends {a : Int32} (hL : LI g x s0 len xs n (xJ h J)) : bo g l x s0 len xs n mX10_ends mX11_ends [.int a] (xJ h J) := by
  have hL0 := hL
  obtain ⟨h', J', e, sc, hs, L, L', B, c, D, T, E, ts, tp, V, fl, gv, hI, hR, hK, hp, hn, h7⟩ := hL
  rw [e] at hL0 sc ⊢
  have hI0 := hI
  obtain ⟨hS, hptr, ⟨b0, b1, B16, B512⟩, hten, ⟨e2, ts4, htp⟩, hD, hB, hE, ⟨hV, wV⟩, e8, e10⟩ := hI
  obtain ⟨gx, hxH, hHh, hW, hQ, hCR, lay⟩ := CS_x hS
  refine c_ends10 hS.1 hS.2.2.2 hS.2.2.1 hV wV (fun z => ⟨-1, rfl, sc, ?_⟩) (fun t q u q2 J1 o tk2 => ?_)
  · obtain ⟨N, S, rx, s67, rk⟩ := hR.2.2.1
    exact rfB (c_ends11 hR.1 rx.1 (RX_67 rx s67).2 wV.1 wV.2.2.1 (fun _ => ⟨rfl, LI_s hL0⟩) (fun t q u q2 K1 N1 ho hN hz k2 k5 => ⟨fun y => absurd y (z 0 (by decide)), fun y => absurd y (z 1 (by decide)), fun y => absurd y (z 2 (by decide))⟩))
  · have jf : JF x (x + 1282) J' J1 := fun r hr => o r (by omega)
    have sc1 := SC_m (HF_r x h') jf hHh hs sc
    have hR1 := RI_m (HF_r x h') jf hHh hR
    obtain ⟨N, S, rx, s67, rk⟩ := hR1.2.2.1
    have li : ∀ K1 N1, xo1 (fun j i => J1 (x + 1258 + j) i) K1 → RN K1 N1 → zk N N1 → LI g x s0 len xs (n + 1) (xB (xJ h' J1) (x + 1258) K1) := fun K1 N1 ho hN hz => LI_e sc1 hs (CI_c (fun r r1 _ => o r r1) hI0) (RI_1 ho hN hz rx s67 rk hR1) hK hp (by omega) h7
    have d01 : nI 0 ≠ nI 1 := by decide
    have d02 : nI 0 ≠ nI 2 := by decide
    have d12 : nI 1 ≠ nI 2 := by decide
    refine ⟨fun ea => ⟨_, rfl, sc1, ?_⟩, fun _ tk5 => ⟨fun ea => ⟨_, rfl, sc1, ?_⟩, fun ea => ⟨_, rfl, sc1, ?_⟩⟩⟩
    · subst ea
      refine rfB (c_ends11 hR1.1 rx.1 (RX_67 rx s67).2 wV.1 wV.2.2.1 (fun z => absurd rfl (z 0 (by decide))) (fun t1 q1 u1 q21 K1 N1 ho hN hz k2 k5 => ⟨fun _ => ⟨?_, li K1 N1 ho hN hz⟩, fun y => absurd y d01, fun y => absurd y d02⟩))
      rw [(tko_un (by decide) k2 tk2).1]
    · subst ea
      refine rfB (c_ends11 hR1.1 rx.1 (RX_67 rx s67).2 wV.1 wV.2.2.1 (fun z => absurd rfl (z 1 (by decide))) (fun t1 q1 u1 q21 K1 N1 ho hN hz k2 k5 => ⟨fun y => absurd y.symm d01, fun _ => ⟨?_, li K1 N1 ho hN hz⟩, fun y => absurd y d12⟩))
      rw [(tko_un (by decide) k2 tk2).2] at k5
      rw [(tko_un (by decide) k5 tk5).1]
    · subst ea
      refine rfB (c_ends11 hR1.1 rx.1 (RX_67 rx s67).2 wV.1 wV.2.2.1 (fun z => absurd rfl (z 2 (by decide))) (fun t1 q1 u1 q21 K1 N1 ho hN hz k2 k5 => ⟨fun y => absurd y.symm d02, fun y => absurd y.symm d12, fun _ => ⟨?_, li K1 N1 ho hN hz⟩⟩))
      rw [(tko_un (by decide) k2 tk2).2] at k5
      rw [(tko_un (by decide) k5 tk5).2]
theorem bo_define (hn5 : n ≤ 512) (hL : LI g x s0 len xs n (xJ h J)) : bo g l x s0 len xs n mX10_define mX11_define [] (xJ h J) := by
  obtain ⟨h', J', e, sc, hs, L, L', B, c, D, T, E, ts, tp, V, fl, gv, hI, hR, hK, hp, hn, h7⟩ := hL
  rw [e] at sc ⊢
  have hI0 := hI
  obtain ⟨hS, hptr, ⟨b0, b1, B16, B512⟩, hten, ⟨e2, ts4, htp⟩, hD, hB, hE, ⟨hV, wV⟩, e8, e10⟩ := hI
  obtain ⟨gx, hxH, hHh, hW, hQ, hCR, lay⟩ := CS_x hS
  have hroom : eO (fte D) c + ts ≤ 10240 := by omega
  have hTT : ∀ p, p < ts → tT T tp (eO (fte D) c) ts (p + eO (fte D) c) = tp p := fun p hp => by
    unfold tT
    rw [if_pos (by omega), Nat.add_sub_cancel]
  refine c_define10 hI0 hroom (fun h1 J1 nL f p c1 D1 rf hD1 hf jf f100 hI1 => ?_) (fun h1 J1 nL c1 D1 j rf hD1 hcc hj nf af hf jf hI1 => ?_) (fun h1 J1 nL c1 D1 E1 rf hcc hK1 hf jf hte hI1 => ?_) (fun h1 J1 nL D1 rf hf jf hI1 => ?_)
  · have sc1 := SC_m hf jf hHh hs sc
    have hR1 := RI_m hf jf hHh hR
    have hT := fun q hq => (hI1.2.2.2.2.2.2.1.1 q hq).2
    refine ⟨_, rfl, sc1, ?_⟩
    refine rfB (c_define11 hR1 B16 B512 hD hK ts4 rfl hroom (Nat.le_refl _) hT hTT rf hD1 (fun f2 p2 er K1 r1 => ?_) (fun er => absurd er (by simp)) (fun er => absurd er (by simp)))
    have er' := Option.some.inj er
    have ef : f = f2 := congrArg Prod.fst er'
    have ep : p = p2 := congrArg Prod.snd er'
    subst ef; subst ep
    exact ⟨rfl, LI_e sc1 hs hI1 r1 hK hp (by omega) h7⟩
  · have sc1 := SC_m hf jf hHh hs sc
    have hR1 := RI_m hf jf hHh hR
    have hT := fun q hq => (hI1.2.2.2.2.2.2.1.1 q hq).2
    refine ⟨_, rfl, sc1, ?_⟩
    refine rfB (c_define11 hR1 B16 B512 hD hK ts4 rfl hroom (Nat.le_refl _) hT hTT rf hD1 (fun f2 p2 er => absurd er (by simp)) (fun _ j2 hj2 nf2 af2 K1 r1 => ?_) (fun _ K1 E1 k1 => absurd (KN_fn k1 j hj) nf))
    have : j2 = j := by
      rcases Nat.lt_trichotomy j2 j with z | z | z
      · exact absurd (af j2 z) nf2
      · exact z
      · exact absurd (af2 j z) nf
    subst this
    exact ⟨rfl, LI_e sc1 hs hI1 r1 hK hp (by omega) h7⟩
  · have sc1 := SC_m hf jf hHh hs sc
    have hR1 := RI_m hf jf hHh hR
    have hT := fun q hq => (hI1.2.2.2.2.2.2.1.1 q hq).2
    have hD1 := hI1.2.2.2.2.2.1
    refine ⟨_, rfl, sc1, ?_⟩
    refine rfB (c_define11 hR1 B16 B512 hD hK ts4 rfl hroom (Nat.le_refl _) hT hTT rf hD1 (fun f2 p2 er => absurd er (by simp)) (fun _ j2 hj2 nf2 => absurd (KN_fn hK1 j2 hj2) nf2) (fun _ K1 E2 k2 r1 => ⟨rfl, ?_⟩))
    obtain ⟨-, pre⟩ := RF_pre rf
    have hnb : nb (fso D) c ≤ nb (fso D1) c1 := by
      have q1 := nb_c (so := fso D) (so' := fso D1) (c := c) (fun k hk => (f_c (pre k hk)).1) (Nat.le_refl c)
      have q2 := nb_mono (fso D1) (show c ≤ c1 by omega)
      omega
    exact LI_e sc1 hs hI1 (RI_E k2 hK1 r1) hK1 (pz_up hp hnb) (by omega) (RF_nm7 h7 rf)
  · have sc1 := SC_m hf jf hHh hs sc
    have hR1 := RI_m hf jf hHh hR
    have hT := fun q hq => (hI1.2.2.2.2.2.2.1.1 q hq).2
    have eD := RF_eq rf rfl
    subst eD
    refine ⟨_, rfl, sc1, ?_⟩
    refine rfB (c_define11 hR1 B16 B512 hD hK ts4 rfl hroom (Nat.le_refl _) hT hTT rf hD (fun f2 p2 er => absurd er (by simp)) (fun _ j2 hj2 nf2 => absurd (KN_fn hK j2 hj2) nf2) (fun _ K1 E2 k2 r1 => ⟨by rw [Nat.sub_self], ?_⟩))
    exact LI_e sc1 hs hI1 (RI_E k2 hK r1) hK hp (by omega) h7
theorem bo_forget {a : Int32} (hL : LI g x s0 len xs n (xJ h J)) : bo g l x s0 len xs n mX10_forget mX11_forget [.int a] (xJ h J) := by
  have hL0 := hL
  obtain ⟨h', J', e, sc, hs, L, L', B, c, D, T, E, ts, tp, V, fl, gv, hI, hR, hK, hp, hn, h7⟩ := hL
  rw [e] at hL0 sc ⊢
  have hI0 := hI
  obtain ⟨hS, hptr, ⟨b0, b1, B16, B512⟩, hten, ⟨e2, ts4, htp⟩, hD, hB, hE, ⟨hV, wV⟩, e8, e10⟩ := hI
  obtain ⟨gx, hxH, hHh, hW, hQ, hCR, lay⟩ := CS_x hS
  have hc := hD.1
  have no : (a < 0 ∨ ∃ j, a = nI j ∧ c < j ∧ j < 2 ^ 31) → ∀ j, a = nI j → j ≤ c → False := fun z j ej hj => by
    rcases z with z | ⟨j2, e2, z1, z2⟩
    · rw [ej] at z; exact nIp (by omega) z
    · have : j = j2 := (nI_eq (by omega) (by omega)).mp (ej.symm.trans e2)
      omega
  refine c_forget10 hI0 (fun z => ⟨-1, rfl, sc, ?_⟩) (fun ez => ⟨nI c, rfl, sc, ?_⟩) (fun j h1 J1 E1 ej j0 jc hK1 hf jf hI1 => ?_) (fun j i h1 J1 ej j0 jc hi nf af hf jf hI1 => ?_)
  · exact rfB (c_forget11 hR B16 B512 hD hK (fun _ => ⟨rfl, LI_s hL0⟩) (fun j ej hj => (no z j ej hj).elim) (fun j i ej hj => (no z j ej hj).elim))
  · refine rfB (c_forget11 (RI_J hR) B16 B512 hD hK (fun z => (no z 0 ez (by omega)).elim) (fun j ej hj K1 E1 k1 r1 => ?_) (fun j i ej hj hi nf => ?_))
    · have : j = 0 := (nI_eq (by omega) (by omega)).mp (ej.symm.trans ez)
      subst this
      rw [Nat.sub_zero] at k1 r1 ⊢
      rw [lp_id hp] at r1
      exact ⟨rfl, LI_e sc hs hI0 (RI_E k1 hK r1) hK hp (by omega) h7⟩
    · have : j = 0 := (nI_eq (by omega) (by omega)).mp (ej.symm.trans ez)
      subst this
      rw [Nat.sub_zero] at hi nf
      exact absurd (KN_fn hK i hi) nf
  · have sc1 := SC_m hf jf hHh hs sc
    have hR1 := RI_m hf jf hHh hR
    refine ⟨_, rfl, sc1, ?_⟩
    refine rfB (c_forget11 hR1 B16 B512 hD hK (fun z => (no z j ej jc).elim) (fun j2 ej2 hj2 K1 E2 k2 r1 => ?_) (fun j2 i ej2 hj2 hi nf => ?_))
    · have : j2 = j := (nI_eq (by omega) (by omega)).mp (ej2.symm.trans ej)
      subst this
      have := eO_up (f := fte D) (fun k hk => (hD.2.2.1 k hk).1) (show c - j2 ≤ c by omega)
      exact ⟨rfl, LI_e sc1 hs hI1 (RI_E k2 hK1 r1) hK1 (pz_lp _ _) (by omega) (fun k hk => h7 k (by omega))⟩
    · have : j2 = j := (nI_eq (by omega) (by omega)).mp (ej2.symm.trans ej)
      subst this
      exact absurd (KN_fn hK1 i hi) nf
  · have sc1 := SC_m hf jf hHh hs sc
    have hR1 := RI_m hf jf hHh hR
    refine ⟨_, rfl, sc1, ?_⟩
    refine rfB (c_forget11 hR1 B16 B512 hD hK (fun z => (no z j ej jc).elim) (fun j2 ej2 hj2 K1 E2 k2 r1 => ?_) (fun j2 i2 ej2 hj2 hi2 nf2 K1 r1 => ⟨rfl, LI_e sc1 hs hI1 r1 hK hp (by omega) h7⟩))
    have : j2 = j := (nI_eq (by omega) (by omega)).mp (ej2.symm.trans ej)
    subst this
    exact absurd (KN_fn k2 i hi) nf
theorem bo_reckon (hn5 : n ≤ 512) (hL : LI g x s0 len xs n (xJ h J)) : bo g l x s0 len xs n mX10_reckon mX11_reckon [] (xJ h J) := by
  obtain ⟨h', J', e, sc, hs, L, L', B, c, D, T, E, ts, tp, V, fl, gv, hI, hR, hK, hp, hn, h7⟩ := hL
  rw [e] at sc ⊢
  have hI0 := hI
  obtain ⟨hS, hptr, ⟨b0, b1, B16, B512⟩, hten, ⟨e2, ts4, htp⟩, hD, hB, hE, ⟨hV, wV⟩, e8, e10⟩ := hI
  obtain ⟨gx, hxH, hHh, hW, hQ, hCR, lay⟩ := CS_x hS
  have hroom : eO (fte D) c + ts ≤ 10240 := by omega
  have hCt : ∀ p, p < ts → cT (tT T tp (eO (fte D) c) ts) (eO (fte D) c + ts) (p + eO (fte D) c) = tp p := fun p hp => by
    rw [cT_in (by omega)]
    unfold tT
    rw [if_pos (by omega), Nat.add_sub_cancel]
  refine c_reckon10 hI0 hroom hK rfl rfl rfl rfl rfl (fun h1 J1 e pm hf jf hI1 => ?_) (fun h1 J1 Ls e f p pm tk ex f0 f100 hf jf hI1 => ?_) (fun h1 J1 Ls e v pm tk ex hf jf hI1 => ?_)
  · have sc1 := SC_m hf jf hHh hs sc
    have hR1 := RI_m hf jf hHh hR
    have hC := cT_ok (fun q hq => (hI1.2.2.2.2.2.2.1.1 q hq).2) hroom
    refine ⟨_, rfl, sc1, ?_⟩
    exact rfB (c_reckon11 hR1 B16 B512 hD ts4 hC rfl hCt rfl (Or.inl ⟨e, pm, fun K1 r1 => ⟨rfl, LI_e sc1 hs hI1 r1 hK hp (by omega) h7⟩⟩))
  · have sc1 := SC_m hf jf hHh hs sc
    have hR1 := RI_m hf jf hHh hR
    have hC := cT_ok (fun q hq => (hI1.2.2.2.2.2.2.1.1 q hq).2) hroom
    refine ⟨_, rfl, sc1, ?_⟩
    refine rfB (c_reckon11 hR1 B16 B512 hD ts4 hC rfl hCt rfl (Or.inr ⟨Ls, e, pm, tk, fun f2 p2 ex2 _ _ K1 r1 => ?_, fun v ex2 => absurd (ex.symm.trans ex2) rBad_ne⟩))
    obtain ⟨ef, ep⟩ := rBad_p (ex.symm.trans ex2)
    subst ef; subst ep
    exact ⟨rfl, LI_e sc1 hs hI1 r1 hK hp (by omega) h7⟩
  · have sc1 := SC_m hf jf hHh hs sc
    have hR1 := RI_m hf jf hHh hR
    have hC := cT_ok (fun q hq => (hI1.2.2.2.2.2.2.1.1 q hq).2) hroom
    refine ⟨_, rfl, sc1, ?_⟩
    refine rfB (c_reckon11 hR1 B16 B512 hD ts4 hC rfl hCt rfl (Or.inr ⟨Ls, e, pm, tk, fun f2 p2 ex2 => absurd (ex2.symm.trans ex) rBad_ne, fun v2 ex2 K1 r1 => ?_⟩))
    have ev : [v] = [v2] := rOk_inj (ex.symm.trans ex2)
    have ev2 : v = v2 := List.head_eq_of_cons_eq ev
    subst ev2
    have pzv := exe_pz (B := B) (C := cT (tT T tp (eO (fte D) c) ts) (eO (fte D) c + ts)) (m := eO (fte D) c + ts) (n := nb (fso D) c) (mg := mng (fso D) (fln D) (fnm D) c (cT (tT T tp (eO (fte D) c) ts) (eO (fte D) c + ts))) (fun a n => mng_lt) (E_pz hD hK) (L := Ls) (V := []) (fun v hv => by cases hv)
    rw [ex] at pzv
    exact ⟨rfl, LI_e sc1 hs hI1 r1 hK (pzv v List.mem_cons_self) (by omega) h7⟩
theorem bo_turn (hn5 : n ≤ 512) (hL : LI g x s0 len xs n (xJ h J)) : bo g l x s0 len xs n mX10_turn mX11_turn [] (xJ h J) := by
  obtain ⟨h', J', e, sc, hs, L, L', B, c, D, T, E, ts, tp, V, fl, gv, hI, hR, hK, hp, hn, h7⟩ := hL
  rw [e] at sc ⊢
  have hI0 := hI
  obtain ⟨hS, hptr, ⟨b0, b1, B16, B512⟩, hten, ⟨e2, ts4, htp⟩, hD, hB, hE, ⟨hV, wV⟩, e8, e10⟩ := hI
  obtain ⟨gx, hxH, hHh, hW, hQ, hCR, lay⟩ := CS_x hS
  have hroom : eO (fte D) c + ts ≤ 10240 := by omega
  have hCt : ∀ p, p < ts → cT (tT T tp (eO (fte D) c) ts) (eO (fte D) c + ts) (p + eO (fte D) c) = tp p := fun p hp => by
    rw [cT_in (by omega)]
    unfold tT
    rw [if_pos (by omega), Nat.add_sub_cancel]
  refine c_turn10 hI0 hroom hK rfl rfl rfl rfl rfl (fun h1 J1 e pm hf jf hI1 => ?_) (fun h1 J1 L1 e1 L2 e f p pm ex f0 f100 hf jf hI1 => ?_) (fun h1 J1 L1 e1 L2 e v pm ex hf jf hI1 => ?_)
  · have sc1 := SC_m hf jf hHh hs sc
    have hR1 := RI_m hf jf hHh hR
    have hC := cT_ok (fun q hq => (hI1.2.2.2.2.2.2.1.1 q hq).2) hroom
    refine ⟨_, rfl, sc1, ?_⟩
    exact rfB (c_turn11 hR1 B16 B512 hD ts4 hC rfl hCt rfl (Or.inl ⟨e, pm, fun K1 r1 => ⟨rfl, LI_e sc1 hs hI1 r1 hK hp (by omega) h7⟩⟩))
  · have sc1 := SC_m hf jf hHh hs sc
    have hR1 := RI_m hf jf hHh hR
    have hC := cT_ok (fun q hq => (hI1.2.2.2.2.2.2.1.1 q hq).2) hroom
    refine ⟨_, rfl, sc1, ?_⟩
    refine rfB (c_turn11 hR1 B16 B512 hD ts4 hC rfl hCt rfl (Or.inr ⟨L1, e1, L2, e, pm, fun f2 p2 ex2 _ _ K1 r1 => ?_, fun v ex2 => absurd (ex.symm.trans ex2) rBad_ne⟩))
    obtain ⟨ef, ep⟩ := rBad_p (ex.symm.trans ex2)
    subst ef; subst ep
    exact ⟨rfl, LI_e sc1 hs hI1 r1 hK hp (by omega) h7⟩
  · have sc1 := SC_m hf jf hHh hs sc
    have hR1 := RI_m hf jf hHh hR
    have hC := cT_ok (fun q hq => (hI1.2.2.2.2.2.2.1.1 q hq).2) hroom
    refine ⟨_, rfl, sc1, ?_⟩
    refine rfB (c_turn11 hR1 B16 B512 hD ts4 hC rfl hCt rfl (Or.inr ⟨L1, e1, L2, e, pm, fun f2 p2 ex2 => absurd (ex2.symm.trans ex) rBad_ne, fun v2 ex2 K1 r1 => ?_⟩))
    have ev : [v] = [v2] := rOk_inj (ex.symm.trans ex2)
    have ev2 : v = v2 := List.head_eq_of_cons_eq ev
    subst ev2
    have pzv := exe_pz (B := B) (C := cT (tT T tp (eO (fte D) c) ts) (eO (fte D) c + ts)) (m := eO (fte D) c + ts) (n := nb (fso D) c) (mg := mng (fso D) (fln D) (fnm D) c (cT (tT T tp (eO (fte D) c) ts) (eO (fte D) c + ts))) (fun a n => mng_lt) (E_pz hD hK) (L := L1 ++ (L2 ++ [(18, e1, 0)])) (V := []) (fun v hv => by cases hv)
    rw [ex] at pzv
    exact ⟨rfl, LI_e sc1 hs hI1 r1 hK (pzv v List.mem_cons_self) (by omega) h7⟩
end Steps2
