/-! ===== the law from its entry on ===== -/
theorem nul_none {P : Nat → Option Nat} (h : ∀ i, P i = none) : ∀ n, nul P n = n
  | 0 => rfl
  | n + 1 => by
    show nul P n + (if P n = none then 1 else 0) = n + 1
    rw [nul_none h n, if_pos (h n)]
section LawStart
variable {g : xG} {l : Launch} {h : xH} {Q : Option Value → xH → Prop} {s0 len : Nat} {xs : Nat → Int32}
theorem c_cell (ht : xT h s0 = (104, len)) (hl : len ≤ 3073) (k : Q (some (.int (if 0 < len then xI h s0 0 else 0))) h) : ac g l mL_cell [.ref s0, .int (nI 0)] h Q := by
  refine ac_of (by decide) (Nat.le_of_ble_eq_true rfl) ?_
  refine sL_cell_0 rfl (sL_cell_1 rfl (sL_cell_2 (Or.inr (by rw [ht])) ?_))
  rw [ht]
  refine sL_cell_3 (fun z => ?_) (fun z => ?_)
  · have z' : len ≤ 0 := (nI_leI (by omega) (by decide)).mp z
    rw [if_neg (by omega)] at k
    exact sL_cell_12 (sL_cell_13 k)
  · have z' : 0 < len := Nat.pos_of_ne_zero (fun e => z (by rw [e]; decide))
    rw [if_pos z'] at k
    refine sL_cell_6 rfl (sL_cell_7 rfl (sL_cell_8 (Or.inr (by rw [ht])) (by rw [ht]; exact vp_in_nI z' (by omega)) ?_))
    exact sL_cell_9 (sL_cell_13 k)
/-- both sides as they are made -/
theorem LI_0 {x B : Nat} {h1 h2 : xH} {K : Nat → Nat → Int32} {N : Nat → Nat} {S : Nat → Vl} (hB : 16 ≤ B ∧ B ≤ 512) (hlo : g.2.2.1 ≤ x) (hs : s0 < x) (ht : xT h1 s0 = (104, len)) (hx : xI h1 s0 = xs) (gx : g.2.2.2 < x) (tt : xT h1 g.2.2.2 = (104, 10)) (ti : ∀ i, i < 10 → xI h1 g.2.2.2 i = nI (10 ^ i)) (e1 : h1.1 = x + 1258)
    (cm : CM h1 x) (cw : CW h1 (x + 2)) (cp : CPr h1 (x + 15)) (ce : CE h1 (x + 20)) (cv : CV h1 (x + 26)) (cr : CRn h1 (x + 32)) (i0 : xI h1 x 0 = nI B) (i1 : xI h1 (x + 32 + 1213) 0 = nI B) (ix : ∀ i, 0 < i → xI h1 x i = 0) (iw : ∀ i, i < 11 → xI h1 (x + 2) i = 0) (it : ∀ i, xI h1 (x + 2 + 1) i = 0) (vj : VJ (xI h1) (x + 26) v00)
    (e2 : h2.1 = x + 1282) (f2 : h2.2.1 ≤ 6950366) (G : gw (x + 1258) (xnew h1 11 48) h2) (rs : RS h2 (x + 1258)) (rx : RX K N S) (s67 : S 67 = v00) (k0 : K 0 0 = nI B) (kz : ∀ i, 0 < i → K 0 i = 0) : LI g x s0 len xs 0 (xB h2 (x + 1258) K) := by
  have lo : ∀ a, a < x + 1258 → xT h2 a = xT h1 a ∧ xP h2 a = xP h1 a ∧ xI h2 a = xI h1 a := fun a ha => by
    obtain ⟨g1, g2, g3⟩ := G.2 a ha
    exact ⟨by rw [g1, xn_T (by omega)], by rw [g2, xn_P (by omega)], by rw [g3, xn_I (by omega)]⟩
  have rgl : ∀ a n, a + n ≤ x + 1258 → rg a (a + n) h1 h2 := fun a n hn r r1 r2 => lo r (by omega)
  have cm2 : CM h2 x := by
    obtain ⟨m1, m2, m3⟩ := cm
    exact ⟨by rw [(lo x (by omega)).1]; exact m1, by rw [(lo x (by omega)).2.1]; exact m2, by rw [(lo (x + 1) (by omega)).1]; exact m3⟩
  have cw2 := CW_r (rgl (x + 2) 13 (by omega)) cw
  have cp2 := CPr_r (rgl (x + 15) 5 (by omega)) cp
  have ce2 := CE_r (rgl (x + 20) 6 (by omega)) ce
  have cv2 := CV_r (rgl (x + 26) 6 (by omega)) cv
  have cr2 := CRn_r (rgl (x + 32) 1226 (by omega)) cr
  have J0 : ∀ a, a < x + 1258 → (fun a i => if x + 1258 ≤ a ∧ a < x + 1258 + 24 then K (a - (x + 1258)) i else xI h2 a i) a = xI h1 a := fun a ha => by
    funext i
    show (if x + 1258 ≤ a ∧ a < x + 1258 + 24 then K (a - (x + 1258)) i else xI h2 a i) = xI h1 a i
    rw [if_neg (by omega), (lo a ha).2.2]
  have J1 : ∀ r, r < 24 → (fun i => (fun a i => if x + 1258 ≤ a ∧ a < x + 1258 + 24 then K (a - (x + 1258)) i else xI h2 a i) (x + 1258 + r) i) = K r := fun r hr => by
    funext i
    show (if x + 1258 ≤ x + 1258 + r ∧ x + 1258 + r < x + 1258 + 24 then K (x + 1258 + r - (x + 1258)) i else xI h2 (x + 1258 + r) i) = K r i
    rw [if_pos (by omega), Nat.add_sub_cancel_left]
  refine ⟨h2, (fun a i => if x + 1258 ≤ a ∧ a < x + 1258 + 24 then K (a - (x + 1258)) i else xI h2 a i), rfl, ⟨⟨?_, ?_⟩, ?_⟩, hs, x + 32 + 1, x + 32 + 605, B, 0, (fun k => ((0, 0, 0, fun _ => 0), (0, 0, []), (fun _ => 0, 0), (0, 0, 0, 0), 0)), (fun _ => 0), (fun _ => none), 0, (fun _ => 0), v00, 0, 0, ?_, ?_, fun k hk => absurd hk (by omega), ?_, ?_, fun k hk => absurd hk (by omega)⟩
  · show xT h2 s0 = _; rw [(lo s0 (by omega)).1]; exact ht
  · show (fun a i => if x + 1258 ≤ a ∧ a < x + 1258 + 24 then K (a - (x + 1258)) i else xI h2 a i) s0 = xs
    rw [J0 s0 (by omega)]; exact hx
  · show (xT h2 (x + 1258)).1 = 11; rw [rs.1]
  · generalize hJ : (fun a i => if x + 1258 ≤ a ∧ a < x + 1258 + 24 then K (a - (x + 1258)) i else xI h2 a i) = J at J0 J1
    refine ⟨⟨cm2, ⟨?_, ?_, ?_, by omega, by omega, by omega, ?_⟩, cv2, ce2⟩, fun z => absurd z (by omega), ⟨by rw [J0 x (by omega)]; exact i0, by rw [J0 _ (by omega)]; exact i1, hB.1, hB.2⟩, fun i hi => by rw [J0 _ (by omega)]; exact ti i hi, ⟨by rw [J0 x (by omega)]; exact ix 2 (by decide), by omega, fun i hi => absurd hi (by omega)⟩, ?_, ?_, fun k hk => absurd hk (by omega), ⟨VJ_c (fun r a c => J0 r (by omega)) vj, vWf_00⟩, by rw [J0 x (by omega)]; exact ix 8 (by decide), by rw [J0 x (by omega)]; exact ix 10 (by decide)⟩
    · refine ⟨?_, cp2.1, ?_, cp2.2.2.2.1, cp2.2.2.2.2, cp2.2.2.1, xs_s, cw2.2.2.1⟩
      · obtain ⟨a, b, c, d, e, f, i⟩ := cw2
        exact ⟨a, by rw [fxT_P (by omega)]; exact b, c, d, e, by rw [fxT_P (by omega)]; exact f, i⟩
      · rw [fxT_P (by omega)]; exact cp2.2.1
    · obtain ⟨⟨a1, a2, a3, ⟨b1, b2, ⟨b3, b4, b5, b6, b7⟩, b8⟩, a5, a6, a7⟩, -⟩ := cr2
      have fN : ∀ {a c : Nat}, a ≠ x + 2 + 14 → CN h2 a c → CN (fxT h2 x) a c := fun {a c} ha hN => ⟨hN.1, by rw [fxT_P ha]; exact hN.2.1, hN.2.2⟩
      exact ⟨a1, by rw [fxT_P (by omega)]; exact a2, a3, ⟨b1, by rw [fxT_P (by omega)]; exact b2, ⟨fN (by omega) b3, fN (by omega) b4, fN (by omega) b5, fN (by omega) b6, fN (by omega) b7⟩, b8⟩, CLd_e (h := h2) (h' := fxT h2 x) (fun _ _ _ => rfl) (fun a c1 c2 => fxT_P (by omega)) a5, CLd_e (h := h2) (h' := fxT h2 x) (fun _ _ _ => rfl) (fun a c1 c2 => fxT_P (by omega)) a6, a7⟩
    · have pn : ∀ i, xP (fxT h2 x) (x + 32 + 1209) i = none := fun i => by rw [fxT_P (by omega)]; exact cr2.2.2 i
      have nn := nul_none pn 6767
      refine ⟨cr2.2.1, by omega, by show x + 1282 ≤ h2.1; omega, fun i q hi z => ?_, ?_, ?_⟩
      · rw [pn i] at z; cases z
      · rw [nn]; show h2.1 + _ ≤ _; omega
      · rw [nn]; show h2.2.1 + _ ≤ _; omega
    · show xT h2 g.2.2.2 = _; rw [(lo _ (by omega)).1]; exact tt
    · exact ⟨by omega, fun k hk => absurd hk (by omega), fun k hk => absurd hk (by omega), by show (0 : Nat) ≤ 8; omega, fun k hk => absurd hk (by omega), fun k k' hk => absurd hk (by omega)⟩
    · refine ⟨fun q hq => ⟨?_, by show (0 : Nat) < 256; omega⟩, by rw [J0 _ (by omega)]; exact iw 9 (by decide), by rw [J0 _ (by omega)]; exact iw 10 (by decide), fun k hk => absurd hk (by omega)⟩
      rw [J0 _ (by omega), it q]; rfl
  · refine RI_c (K := K) (fun r hr => J1 r hr) ⟨rs, k0, ⟨N, S, rx, s67, fun k hk => absurd hk (by omega)⟩, ⟨kz 5 (by decide), fun i hi => absurd hi (by omega)⟩, kz 6 (by decide), fun k hk => absurd hk (by omega), kz 14 (by decide), kz 18 (by decide), kz 19 (by decide)⟩
  · exact fun j h1 h2 => rfl
  · show 0 + 0 ≤ 20 * 0; omega
theorem law_start (hlo : g.2.2.1 ≤ h.1) (hs : s0 < h.1) (ht : xT h s0 = (104, len)) (hx : xI h s0 = xs) (gx : g.2.2.2 < h.1) (tt : xT h g.2.2.2 = (104, 10)) (ti : ∀ i, i < 10 → xI h g.2.2.2 i = nI (10 ^ i)) (hz : h.2.1 = 0) (hl : len ≤ 3073) (kq : ∀ H', H'.1 ≤ h.1 + 41884 → H'.2.1 ≤ 7302250 → Q (some (.int 1)) H') : aw g l mL_law 0 [(0, .ref s0)] [] h Q := by
  obtain ⟨x, ex⟩ : ∃ x, x = h.1 := ⟨_, rfl⟩
  obtain ⟨y, ey⟩ : ∃ y : Int32, y = if 0 < len then xs 0 else 0 := ⟨_, rfl⟩
  refine sL_law_0 hlo ?_
  rw [← ex]
  refine sL_law_3 rfl (sL_law_4 rfl (nL_law_5 ?_))
  have t0 : ∀ a, a < x → xT (xnew h 10 11) a = xT h a ∧ xI (xnew h 10 11) a = xI h a := fun a ha => ⟨xn_T (by omega), xn_I (by omega)⟩
  refine sL_law_6 (Nat.le_of_ble_eq_true rfl) (c_cell (len := len) (by rw [(t0 s0 (by omega)).1]; exact ht) hl ?_)
  rw [(t0 s0 (by omega)).2, hx, ← ey]
  show aw g l mL_law 9 _ [.int y, .ref x, .ref x] _ Q
  refine sL_law_9 (Nat.le_of_ble_eq_true rfl) (c_init10 (x := x) (y := y) (by rw [ex, xn_Ts]) (by show h.1 + 1 = _; omega) (fun i => by rw [ex, xn_Is]) (by show _ ≤ h.1 + 1; omega) (fun h1 e1 f1 G1 cm cw cp ce cv cr i0 i1 ix iw it vj => ?_))
  have f1' : h1.2.1 = h.2.1 + 11 + 75628 := f1
  show aw g l mL_law 12 _ [.ref x] h1 Q
  have lo1 : ∀ a, a < x → xT h1 a = xT h a ∧ xI h1 a = xI h a := fun a ha => by
    obtain ⟨g1, g2, g3⟩ := G1.2 a ha
    exact ⟨g1.trans (t0 a ha).1, g3.trans (t0 a ha).2⟩
  refine sL_law_12 ?_
  refine sL_law_13 (by omega) ?_
  rw [e1]
  refine sL_law_16 rfl (sL_law_17 rfl (nL_law_18 ?_))
  have t1 : ∀ a, a < x → xT (xnew h1 11 48) a = xT h a ∧ xI (xnew h1 11 48) a = xI h a := fun a ha => ⟨(xn_T (by omega)).trans (lo1 a ha).1, (xn_I (by omega)).trans (lo1 a ha).2⟩
  refine sL_law_19 (Nat.le_of_ble_eq_true rfl) (c_cell (len := len) (by rw [(t1 s0 (by omega)).1]; exact ht) hl ?_)
  rw [(t1 s0 (by omega)).2, hx, ← ey]
  show aw g l mL_law 22 _ [.int y, .ref (x + 1258), .ref (x + 1258)] _ Q
  refine sL_law_22 (Nat.le_of_ble_eq_true rfl) (c_init11 (q := x + 1258) (y := y) (by rw [← e1, xn_Ts]) (by show h1.1 + 1 = _; omega) (fun i => by rw [← e1, xn_Is]) (fun i => by rw [← e1, xn_Ps]) (by show _ ≤ h1.1 + 1; omega) (fun h2 K N S e2 f2 G2 rs rx s67 k0 kz => ?_))
  have f2' : h2.2.1 = h1.2.1 + 48 + 130439 := f2
  show aw g l mL_law 25 _ [.ref (x + 1258)] _ Q
  refine sL_law_25 (nL_law_26 (sL_law_27 ?_))
  have li : LI g x s0 len xs 0 (xB h2 (x + 1258) K) := LI_0 (bI_b y) (by omega) (by omega) (by rw [(lo1 s0 (by omega)).1]; exact ht) (by rw [(lo1 s0 (by omega)).2]; exact hx) (by omega) (by rw [(lo1 _ (by omega)).1]; exact tt) (fun i hi => by rw [(lo1 _ (by omega)).2]; exact ti i hi) e1 cm cw cp ce cv cr i0 i1 ix iw it vj (by omega) (by omega) G2 rs rx s67 k0 kz
  refine law_loop hl (fun n H' li' => ?_) 600 0 _ _ (by omega) (by omega) li (fun z hz => by simp only [List.mem_cons, List.not_mem_nil, or_false] at hz; rcases hz with rfl | rfl | rfl | rfl <;> exact xlk_mem rfl)
  obtain ⟨b1, b2⟩ := LI_b li'
  exact kq H' (by omega) b2
end LawStart
