/-! ===== the reference: reckon, turn ===== -/
section RTurn
variable {g : xG} {l : Launch} {h : xH} {b : Nat} {K : Nat → Nat → Int32} {Q : Option Value → xH → Prop} {B c ts fl gv fr m a : Nat} {C : Nat → Nat} {D : Nat → Df} {E : Nat → Option (Nat × Vl)} {tp : Nat → Nat} {V : Vl}
theorem c_reckon11 (hI : RI h b K B c D E ts tp V fl gv) (hB0 : 16 ≤ B) (hB2 : B ≤ 512) (hD : DB c D) (hts : ts ≤ 4000) (hC : tOk C m) (hm : m = fr + ts) (hCt : ∀ p, p < ts → C (p + fr) = tp p) (ha : a = tkF C m fr)
    (ho : (∃ e, ((∃ L, PM0 C m a L false e) ∨ ∃ L, PM0 C m a L true e ∧ tkK C m e ≠ 0) ∧ ∀ K', RI h b K' B c D E 0 tp V 1 gv → Q (some (.int (-10 - nI (e - fr)))) (xB h b K')) ∨ ∃ L e, PM0 C m a L true e ∧ tkK C m e = 0 ∧ (∀ f p, exe B C m E (mng (fso D) (fln D) (fnm D) c C) L [] = rBad f p → f ≠ 0 → f < 100 → ∀ K', RI h b K' B c D E 0 tp V f gv → Q (some (.int (-10 - nI (p - fr)))) (xB h b K')) ∧ ∀ v, exe B C m E (mng (fso D) (fln D) (fnm D) c C) L [] = rOk [v] → ∀ K', RI h b K' B c D E 0 tp v 0 (gv + 1) → Q (some (.int (nI 1))) (xB h b K')) : ac g l mX11_reckon [.ref b] (xB h b K) Q := by
  refine ac_of (by decide) (Nat.le_of_ble_eq_true rfl) ?_
  obtain ⟨hS, hB, ⟨N, S, hX, hS67, hRK⟩, ⟨h5, h4⟩, h6, hRB, h14, h18, h19⟩ := hI
  refine sX11_reckon_0 rfl ?_
  refine tX11_reckon_1 hS ?_
  rw [h5]
  refine sX11_reckon_4 ?_
  refine sX11_reckon_5 rfl ?_
  refine nX11_reckon_6 ?_
  refine tX11_reckon_7 hS ?_
  obtain ⟨K1, hK1⟩ : ∃ K1, K1 = xup2 K 0 5 (nI 0) := ⟨_, rfl⟩
  rw [← hK1]
  have r1 : ∀ r, r ≠ 0 → K1 r = K r := fun r hr => by rw [hK1, xup2_r hr]
  have z1 : ∀ j, j ≠ 5 → K1 0 j = K 0 j := fun j hj => by rw [hK1, xup2_n hj]
  have e15 : K1 0 5 = nI 0 := by rw [hK1, xup2_s]
  have x1 : RX K1 N S := by rw [hK1]; exact RX_row0 hX
  have rb1 : RB K1 c D := RB_x (fun r a1 _ => r1 r (by omega)) hRB
  have b1 : K1 0 0 = nI B := by rw [z1 0 (by decide)]; exact hB
  have t1 : ∀ p, p < ts → K1 4 p = nI (C (p + fr)) := fun p hp => by rw [r1 4 (by decide), hCt p hp]; exact h4 p hp
  have hn : ts + fr = m := by omega
  -- the new state
  have mk : ∀ (K2 : Nat → Nat → Int32) (N2 : Nat → Nat) (S2 : Nat → Vl) (W : Vl) (f gv' : Nat), (∀ r, 4 ≤ r → r < 15 → K2 r = K1 r) → (∀ j, j < 18 → K2 0 j = K1 0 j) → K2 0 18 = nI f → K2 0 19 = nI gv' → RX K2 N2 S2 → S2 67 = W → (∀ k, k < c → S2 (68 + k) = S (68 + k)) → RI h b K2 B c D E 0 tp W f gv' := by
    intro K2 N2 S2 W f gv' o2 z2 e18 e19 x2 w67 wk
    refine ⟨hS, by rw [z2 0 (by decide)]; exact b1, ⟨N2, S2, x2, w67, fun k hk => ?_⟩, ⟨by rw [z2 5 (by decide)]; exact e15, fun i hi => by omega⟩, by rw [z2 6 (by decide), z1 6 (by decide)]; exact h6, RB_x (fun r a1 a2 => o2 r (by omega) (by omega)) rb1, by rw [z2 14 (by decide), z1 14 (by decide)]; exact h14, e18, e19⟩
    rw [o2 12 (by decide) (by decide), o2 13 (by decide) (by decide), r1 12 (by decide), r1 13 (by decide), wk k hk]
    exact hRK k hk
  have fail : ∀ (K2 : Nat → Nat → Int32) (N2 : Nat → Nat) (S2 : Nat → Vl) (f p : Nat) (lv0 : List (Nat × Value)), fH K1 K2 → RX K2 N2 S2 → S2 67 = V → (∀ k, k < c → S2 (68 + k) = S (68 + k)) → K2 0 29 = nI f → K2 0 30 = nI p → (∀ K', RI h b K' B c D E 0 tp V f gv → Q (some (.int (-10 - nI p))) (xB h b K')) → (∀ z ∈ ([(0, .ref b)] : List (Nat × Value)), z ∈ lv0) → aw g l mX11_reckon 27 lv0 [] (xB h b K2) Q := by
    intro K2 N2 S2 f p lv0 fh x2 w67 wk e29 e30 kk hlv
    refine aw_lv hlv ?_
    refine sX11_reckon_27 rfl ?_
    refine sX11_reckon_28 rfl ?_
    refine tX11_reckon_29 hS ?_
    rw [e29]
    refine sX11_reckon_32 rfl ?_
    refine tX11_reckon_33 hS ?_
    rw [e30]
    refine tX11_reckon_36 hS (Nat.le_of_ble_eq_true rfl) ?_
    refine c_failed hS ?_
    refine sX11_reckon_39 (kk _ (mk _ N2 S2 V f gv (fun r a1 a2 => by rw [xup2_r (by omega)]; exact fh.1 r a1 a2) (fun j hj => by rw [xup2_n (by omega)]; exact fh.2 j (by omega)) xup2_s ?_ (RX_row0 x2) w67 wk))
    rw [xup2_n (by decide), fh.2 19 (by decide), z1 19 (by decide)]; exact h19
  refine sX11_reckon_10 rfl ?_
  refine sX11_reckon_11 rfl ?_
  refine sX11_reckon_12 ?_
  refine tX11_reckon_13 hS (Nat.le_of_ble_eq_true rfl) ?_
  rcases ho with ⟨e, hb, kk⟩ | ⟨L, e, pm, he, kF, kV⟩
  · refine c_reads (tv := 0) (n := ts) hS x1 b1 hB0 hB2 hC hn hts t1 ha (Or.inl ⟨e, Or.inl ⟨rfl, hb⟩, fun K2 f2 x2 e29 e30 => ?_⟩)
    refine sX11_reckon_16 (fun _ => ?_) (fun y => absurd rfl y)
    exact fail K2 N S 1 (e - fr) _ f2 x2 hS67 (fun _ _ => rfl) e29 e30 kk (fun z hz => by simp only [List.mem_cons, List.not_mem_nil, or_false] at hz; rcases hz with rfl <;> exact xlk_mem rfl)
  · refine c_reads (tv := 0) (n := ts) hS x1 b1 hB0 hB2 hC hn hts t1 ha (Or.inr (Or.inl ⟨rfl, ⟨L, e, pm, he⟩, fun K2 f2 e21 x2 => ?_⟩))
    refine sX11_reckon_16 (fun y => absurd y (by decide)) (fun _ => ?_)
    refine sX11_reckon_19 rfl ?_
    refine nX11_reckon_20 ?_
    refine tX11_reckon_21 hS (Nat.le_of_ble_eq_true rfl) ?_
    have rk2 : RK K2 S E c := fun k hk => by rw [f2.1 12 (by decide) (by decide), f2.1 13 (by decide) (by decide), r1 12 (by decide), r1 13 (by decide)]; exact hRK k hk
    refine c_has11 (q := fr) (by omega) hS x2 (by rw [f2.2 0 (by decide)]; exact b1) hB0 hB2 hD (RB_x (fun r a1 a2 => f2.1 r (by omega) (by omega)) rb1) rk2 (by rw [f2.2 6 (by decide), z1 6 (by decide)]; exact h6) hC hn e21 hts (fun p hp => by rw [f2.1 4 (by decide) (by decide)]; exact t1 p hp) (Nat.le_refl _) (by omega) ha.symm pm (fun K3 N3 S3 f3 e213 e473 gs x3 ex wf => ?_) (fun K3 N3 S3 f p f3 gs x3 ex f0 f1 e29 e30 => ?_)
    · refine sX11_reckon_24 (fun _ => ?_) (fun y => absurd y (by decide))
      have f13 := fH_t f2 f3
      refine sX11_reckon_40 rfl ?_
      refine nX11_reckon_41 ?_
      refine nX11_reckon_43 ?_
      refine tX11_reckon_44 hS (Nat.le_of_ble_eq_true rfl) ?_
      refine c_take hS x3 (by decide) (by decide) (by decide) (fun K4 N4 o4 x4 => ?_)
      have f14 := fH_t f13 (fH_3 o4)
      refine sX11_reckon_47 rfl ?_
      refine nX11_reckon_48 ?_
      refine tX11_reckon_49 hS ?_
      refine sX11_reckon_52 rfl ?_
      refine sX11_reckon_53 rfl ?_
      refine tX11_reckon_54 hS ?_
      rw [xup2_n (by decide), f14.2 19 (by decide), z1 19 (by decide), h19]
      refine nX11_reckon_57 ?_
      refine nX11_reckon_58 ?_
      refine tX11_reckon_59 hS ?_
      refine nX11_reckon_62 ?_
      refine sX11_reckon_63 (kV (S3 0) ex _ (mk _ N4 _ (S3 0) 0 (gv + 1) (fun r a1 a2 => by rw [xup2_r (by omega), xup2_r (by omega)]; exact f14.1 r a1 a2) (fun j hj => by rw [xup2_n (by omega), xup2_n (by omega)]; exact f14.2 j (by omega)) (by rw [xup2_n (by decide), xup2_s]) xup2_s (RX_row0 (RX_row0 x4)) vup_s (fun k hk => ?_)))
      rw [vup_n (by omega), gs _ (by omega) (by omega)]
    · refine sX11_reckon_24 (fun y => absurd rfl y) (fun _ => ?_)
      exact fail K3 N3 S3 f (p - fr) _ (fH_t f2 f3) x3 (by rw [gs 67 (by decide) (by decide)]; exact hS67) (fun k _ => gs _ (by omega) (by omega)) e29 e30 (kF f p ex f0 f1) (fun z hz => by simp only [List.mem_cons, List.not_mem_nil, or_false] at hz; rcases hz with rfl <;> exact xlk_mem rfl)
theorem c_turn11 (hI : RI h b K B c D E ts tp V fl gv) (hB0 : 16 ≤ B) (hB2 : B ≤ 512) (hD : DB c D) (hts : ts ≤ 4000) (hC : tOk C m) (hm : m = fr + ts) (hCt : ∀ p, p < ts → C (p + fr) = tp p) (ha : a = tkF C m fr)
    (ho : (∃ e, tnB C m a e ∧ ∀ K', RI h b K' B c D E 0 tp V 1 gv → Q (some (.int (-10 - nI (e - fr)))) (xB h b K')) ∨ ∃ L1 e1 L2 e, tnO C m a L1 e1 L2 e ∧ (∀ f p, exe B C m E (mng (fso D) (fln D) (fnm D) c C) (L1 ++ (L2 ++ [(18, e1, 0)])) [] = rBad f p → f ≠ 0 → f < 100 → ∀ K', RI h b K' B c D E 0 tp V f gv → Q (some (.int (-10 - nI (p - fr)))) (xB h b K')) ∧ ∀ v, exe B C m E (mng (fso D) (fln D) (fnm D) c C) (L1 ++ (L2 ++ [(18, e1, 0)])) [] = rOk [v] → ∀ K', RI h b K' B c D E 0 tp v 0 (gv + 1) → Q (some (.int (nI 1))) (xB h b K')) : ac g l mX11_turn [.ref b] (xB h b K) Q := by
  refine ac_of (by decide) (Nat.le_of_ble_eq_true rfl) ?_
  obtain ⟨hS, hB, ⟨N, S, hX, hS67, hRK⟩, ⟨h5, h4⟩, h6, hRB, h14, h18, h19⟩ := hI
  refine sX11_turn_0 rfl ?_
  refine tX11_turn_1 hS ?_
  rw [h5]
  refine sX11_turn_4 ?_
  refine sX11_turn_5 rfl ?_
  refine nX11_turn_6 ?_
  refine tX11_turn_7 hS ?_
  obtain ⟨K1, hK1⟩ : ∃ K1, K1 = xup2 K 0 5 (nI 0) := ⟨_, rfl⟩
  rw [← hK1]
  have r1 : ∀ r, r ≠ 0 → K1 r = K r := fun r hr => by rw [hK1, xup2_r hr]
  have z1 : ∀ j, j ≠ 5 → K1 0 j = K 0 j := fun j hj => by rw [hK1, xup2_n hj]
  have e15 : K1 0 5 = nI 0 := by rw [hK1, xup2_s]
  have x1 : RX K1 N S := by rw [hK1]; exact RX_row0 hX
  have rb1 : RB K1 c D := RB_x (fun r a1 _ => r1 r (by omega)) hRB
  have b1 : K1 0 0 = nI B := by rw [z1 0 (by decide)]; exact hB
  have t1 : ∀ p, p < ts → K1 4 p = nI (C (p + fr)) := fun p hp => by rw [r1 4 (by decide), hCt p hp]; exact h4 p hp
  have hn : ts + fr = m := by omega
  have mk : ∀ (K2 : Nat → Nat → Int32) (N2 : Nat → Nat) (S2 : Nat → Vl) (W : Vl) (f gv' : Nat), (∀ r, 4 ≤ r → r < 15 → K2 r = K1 r) → (∀ j, j < 18 → K2 0 j = K1 0 j) → K2 0 18 = nI f → K2 0 19 = nI gv' → RX K2 N2 S2 → S2 67 = W → (∀ k, k < c → S2 (68 + k) = S (68 + k)) → RI h b K2 B c D E 0 tp W f gv' := by
    intro K2 N2 S2 W f gv' o2 z2 e18 e19 x2 w67 wk
    refine ⟨hS, by rw [z2 0 (by decide)]; exact b1, ⟨N2, S2, x2, w67, fun k hk => ?_⟩, ⟨by rw [z2 5 (by decide)]; exact e15, fun i hi => by omega⟩, by rw [z2 6 (by decide), z1 6 (by decide)]; exact h6, RB_x (fun r a1 a2 => o2 r (by omega) (by omega)) rb1, by rw [z2 14 (by decide), z1 14 (by decide)]; exact h14, e18, e19⟩
    rw [o2 12 (by decide) (by decide), o2 13 (by decide) (by decide), r1 12 (by decide), r1 13 (by decide), wk k hk]
    exact hRK k hk
  have fin : ∀ (K2 : Nat → Nat → Int32) (N2 : Nat → Nat) (S2 : Nat → Vl) (f : Nat), fH K1 K2 → RX K2 N2 S2 → S2 67 = V → (∀ k, k < c → S2 (68 + k) = S (68 + k)) → RI h b (xup2 K2 0 18 (nI f)) B c D E 0 tp V f gv := by
    intro K2 N2 S2 f fh x2 w67 wk
    refine mk _ N2 S2 V f gv (fun r a1 a2 => by rw [xup2_r (by omega)]; exact fh.1 r a1 a2) (fun j hj => by rw [xup2_n (by omega)]; exact fh.2 j (by omega)) xup2_s ?_ (RX_row0 x2) w67 wk
    rw [xup2_n (by decide), fh.2 19 (by decide), z1 19 (by decide)]; exact h19
  have rk : ∀ (K2 : Nat → Nat → Int32) (S2 : Nat → Vl), fH K1 K2 → (∀ k, k < c → S2 (68 + k) = S (68 + k)) → RK K2 S2 E c := fun K2 S2 fh wk k hk => by
    rw [fh.1 12 (by decide) (by decide), fh.1 13 (by decide) (by decide), r1 12 (by decide), r1 13 (by decide), wk k hk]; exact hRK k hk
  refine sX11_turn_10 rfl ?_
  refine sX11_turn_11 rfl ?_
  refine sX11_turn_12 ?_
  refine tX11_turn_13 hS (Nat.le_of_ble_eq_true rfl) ?_
  rcases ho with ⟨e, hb, kk⟩ | ⟨L1, e1, L2, e, ⟨pm1, h62, pm2, he⟩, kF, kV⟩
  · refine c_reads (tv := 1) (n := ts) hS x1 b1 hB0 hB2 hC hn hts t1 ha (Or.inl ⟨e, Or.inr ⟨rfl, hb⟩, fun K2 f2 x2 e29 e30 => ?_⟩)
    refine sX11_turn_16 (fun y => absurd rfl y) (fun _ => ?_)
    refine sX11_turn_19 rfl ?_
    refine sX11_turn_20 rfl ?_
    refine tX11_turn_21 hS ?_
    rw [e29]
    refine sX11_turn_24 rfl ?_
    refine tX11_turn_25 hS ?_
    rw [e30]
    refine tX11_turn_28 hS (Nat.le_of_ble_eq_true rfl) ?_
    refine c_failed hS ?_
    exact sX11_turn_31 (kk _ (fin K2 N S 1 f2 x2 hS67 (fun _ _ => rfl)))
  · have hfa : fr ≤ a := by rw [ha]; exact tkF_ge _ _ _
    have ham : a ≤ m := by rw [ha]; exact tkF_le (by omega)
    have hge1 := pm0_ge pm1
    have hem1 : e1 ≤ m := (pm0_dk (lo := 0) hC pm1 (Nat.zero_le _) ham (n0 := 0) (by omega)).1
    have hlt1 : e1 < m := tkK_lt (C := C) (by omega)
    have t62 : tkT C m e1 = e1 + 1 := by
      rcases (tkK_big C m e1).2 with v | ⟨-, -, -, -, v⟩
      · omega
      · exact v
    have nl : nx C m e1 ≤ m := nx_le hC hem1
    have d2 := (pm0_dk (lo := 0) hC pm2 (Nat.zero_le _) nl (n0 := 0) (by omega)).2.2
    generalize hmg : mng (fso D) (fln D) (fnm D) c C = mg at kF kV
    refine c_reads (tv := 1) (n := ts) hS x1 b1 hB0 hB2 hC hn hts t1 ha (Or.inr (Or.inr ⟨rfl, L1, e1, L2, e, ⟨pm1, h62, pm2, he⟩, fun K2 f2 e21 x2 e47 => ?_⟩))
    refine sX11_turn_16 (fun _ => ?_) (fun y => absurd y (by decide))
    refine sX11_turn_32 rfl ?_
    refine tX11_turn_33 hS ?_
    rw [e47]
    refine sX11_turn_36 ?_
    refine sX11_turn_37 rfl ?_
    refine nX11_turn_38 ?_
    refine tX11_turn_39 hS (Nat.le_of_ble_eq_true rfl) ?_
    refine c_has11 (q := fr) (by omega) hS x2 (by rw [f2.2 0 (by decide)]; exact b1) hB0 hB2 hD (RB_x (fun r a1 a2 => f2.1 r (by omega) (by omega)) rb1) (rk K2 S f2 (fun _ _ => rfl)) (by rw [f2.2 6 (by decide), z1 6 (by decide)]; exact h6) hC hn e21 hts (fun p hp => by rw [f2.1 4 (by decide) (by decide)]; exact t1 p hp) (Nat.le_refl _) (by omega) ha.symm pm1 (fun K3 N3 S3 f3 e213 e473 gs x3 ex wf => ?_) (fun K3 N3 S3 f p f3 gs x3 ex f0 f1 e29 e30 => ?_)
    · rw [hmg] at ex
      have f13 := fH_t f2 f3
      have wk3 : ∀ k, k < c → S3 (68 + k) = S (68 + k) := fun k _ => gs _ (by omega) (by omega)
      have w367 : S3 67 = V := by rw [gs 67 (by decide) (by decide)]; exact hS67
      refine sX11_turn_42 (fun _ => ?_) (fun y => absurd y (by decide))
      refine sX11_turn_58 rfl ?_
      refine nX11_turn_59 ?_
      refine nX11_turn_61 ?_
      refine tX11_turn_62 hS (Nat.le_of_ble_eq_true rfl) ?_
      refine c_take hS x3 (by decide) (by decide) (by decide) (fun K4 N4 o4 x4 => ?_)
      have f14 := fH_t f13 (fH_3 o4)
      have z4 : K4 0 = K3 0 := o4 0 (by decide) (by decide) (by decide)
      have wk4 : ∀ k, k < c → va_up S3 65 (S3 0) (68 + k) = S (68 + k) := fun k hk => by rw [vup_n (by omega)]; exact wk3 k hk
      refine sX11_turn_65 rfl ?_
      refine sX11_turn_66 rfl ?_
      refine nX11_turn_67 ?_
      refine nX11_turn_68 ?_
      refine tX11_turn_69 hS (Nat.le_of_ble_eq_true rfl) ?_
      refine c_has11 (q := e1 + 1) (qv := e1 - fr + 1) (by omega) hS x4 (by rw [f14.2 0 (by decide)]; exact b1) hB0 hB2 hD (RB_x (fun r a1 a2 => f14.1 r (by omega) (by omega)) rb1) (rk K4 _ f14 wk4) (by rw [f14.2 6 (by decide), z1 6 (by decide)]; exact h6) hC hn (by rw [z4]; exact e213) hts (fun p hp => by rw [f14.1 4 (by decide) (by decide)]; exact t1 p hp) (by omega) (by omega) (show tkF C m (e1 + 1) = nx C m e1 by rw [← t62]; rfl) pm2 (fun K5 N5 S5 f5 e215 e475 gs5 x5 ex5 wf5 => ?_) (fun K5 N5 S5 f p f5 gs5 x5 ex5 f0 f1 e29 e30 => ?_)
      · rw [hmg] at ex5
        have f15 := fH_t f14 f5
        have s65 : S5 65 = S3 0 := by rw [gs5 65 (by decide) (by decide), vup_s]
        have wk5 : ∀ k, k < c → S5 (68 + k) = S (68 + k) := fun k hk => by rw [gs5 _ (by omega) (by omega)]; exact wk4 k hk
        have w567 : S5 67 = V := by rw [gs5 67 (by decide) (by decide), vup_n (by decide)]; exact w367
        have exf : exe B C m E mg (L1 ++ (L2 ++ [(18, e1, 0)])) [] = (if (vTurn B (S3 0) (S5 0)).1 = 0 then rOk [(vTurn B (S3 0) (S5 0)).2] else rBad (vTurn B (S3 0) (S5 0)).1 e1) := by
          rw [exe_app ex]
          have e2 := exe_W (B := B) (E := E) (mg := mg) (W := [S3 0]) (L := L2) (V := []) d2
          rw [ex5] at e2
          have e3 : exe B C m E mg L2 [S3 0] = rOk [S5 0, S3 0] := e2
          rw [exe_app e3]
          have e4 : stp B C m E mg (18, e1, 0) [S5 0, S3 0] = rFin (vTurn B (S3 0) (S5 0)) e1 [] := by
            rw [stp_bin (by decide) (by decide) (by decide) (by decide)]; rfl
          by_cases y : (vTurn B (S3 0) (S5 0)).1 = 0
          · rw [if_pos y, exe_ok (e4.trans (rFin_0 y))]; rfl
          · rw [if_neg y, exe_bad (e4.trans (rFin_1 y))]
        have cdt : (vTurn B (S3 0) (S5 0)).1 < 10 := cd_turn
        refine sX11_turn_72 (fun _ => ?_) (fun y => absurd y (by decide))
        refine sX11_turn_88 rfl ?_
        refine nX11_turn_89 ?_
        refine nX11_turn_91 ?_
        refine tX11_turn_92 hS (Nat.le_of_ble_eq_true rfl) ?_
        refine c_areAlike (p := (S5 65).2.2.2) (q := (S5 0).2.2.2) hS (by decide) (by decide) (fun j hj => (x5.2 65 (by decide)).2.2.2 j hj) (fun j hj => (x5.2 0 (by decide)).2.2.2 j hj) (fun y => ?_) (fun y => ?_)
        · have et : vTurn B (S3 0) (S5 0) = vDiv B (S3 0) (S5 0) := by unfold vTurn; exact cIf_t (by rw [← s65]; exact y)
          refine sX11_turn_95 (fun _ => ?_) (fun v => absurd v (by decide))
          refine sX11_turn_106 rfl ?_
          refine nX11_turn_107 ?_
          refine nX11_turn_109 ?_
          refine sX11_turn_110 ?_
          refine tX11_turn_111 hS (Nat.le_of_ble_eq_true rfl) ?_
          refine c_productD hS x5 (by decide) (by decide) (by decide) (by rw [f15.2 0 (by decide)]; exact b1) hB2 (by rw [s65]; exact wf) wf5 (fun K6 N6 o6 vp => ?_)
          rw [s65, ← et] at vp
          have ea : (vDiv B (S5 65) (S5 0)).1 = (vTurn B (S3 0) (S5 0)).1 := by rw [s65, ← et]
          rw [ea]
          have f16 := fH_t f15 (fH_3 o6)
          refine sX11_turn_114 ?_
          refine sX11_turn_115 rfl ?_
          refine nX11_turn_116 (by omega) (fun v => ?_) (fun v => ?_)
          · rw [if_pos v] at exf
            have x6 := vp.2 v
            refine sX11_turn_126 rfl ?_
            refine nX11_turn_127 ?_
            refine nX11_turn_129 ?_
            refine tX11_turn_131 hS (Nat.le_of_ble_eq_true rfl) ?_
            refine c_take hS x6 (by decide) (by decide) (by decide) (fun K7 N7 o7 x7 => ?_)
            have f17 := fH_t f16 (fH_3 o7)
            refine sX11_turn_134 rfl ?_
            refine nX11_turn_135 ?_
            refine tX11_turn_136 hS ?_
            refine sX11_turn_139 rfl ?_
            refine sX11_turn_140 rfl ?_
            refine tX11_turn_141 hS ?_
            rw [xup2_n (by decide), f17.2 19 (by decide), z1 19 (by decide), h19]
            refine nX11_turn_144 ?_
            refine nX11_turn_145 ?_
            refine tX11_turn_146 hS ?_
            refine nX11_turn_149 ?_
            refine sX11_turn_150 (kV _ exf _ (mk _ N7 _ _ 0 (gv + 1) (fun r a1 a2 => by rw [xup2_r (by omega), xup2_r (by omega)]; exact f17.1 r a1 a2) (fun j hj => by rw [xup2_n (by omega), xup2_n (by omega)]; exact f17.2 j (by omega)) (by rw [xup2_n (by decide), xup2_s]) xup2_s (RX_row0 (RX_row0 x7)) (by rw [vup_s, vup_s]) (fun k hk => ?_)))
            rw [vup_n (by omega), vup_n (by omega)]; exact wk5 k hk
          · rw [if_neg v] at exf
            obtain ⟨x', x6⟩ := vp.1
            refine sX11_turn_119 rfl ?_
            refine sX11_turn_120 rfl ?_
            refine sX11_turn_121 rfl ?_
            refine tX11_turn_122 hS (Nat.le_of_ble_eq_true rfl) ?_
            refine c_failed hS ?_
            exact sX11_turn_125 (kF _ e1 exf v (by omega) _ (fin K6 N6 _ _ f16 x6 (by rw [vup_n (by decide)]; exact w567) (fun k hk => by rw [vup_n (by omega)]; exact wk5 k hk)))
        · have et : vTurn B (S3 0) (S5 0) = (7, S3 0) := by unfold vTurn; exact cIf_f (by rw [← s65]; exact y)
          rw [et, if_neg (show ¬ (7 : Nat) = 0 by decide)] at exf
          refine sX11_turn_95 (fun v => absurd rfl v) (fun _ => ?_)
          refine sX11_turn_98 rfl ?_
          refine nX11_turn_99 ?_
          refine sX11_turn_101 rfl ?_
          refine tX11_turn_102 hS (Nat.le_of_ble_eq_true rfl) ?_
          refine c_failed hS ?_
          exact sX11_turn_105 (kF 7 e1 exf (by decide) (by decide) _ (fin K5 N5 S5 7 f15 x5 w567 wk5))
      · rw [hmg] at ex5
        have exf : exe B C m E mg (L1 ++ (L2 ++ [(18, e1, 0)])) [] = rBad f p := by
          rw [exe_app ex]
          have e2 := exe_W (B := B) (E := E) (mg := mg) (W := [S3 0]) (L := L2) (V := []) d2
          rw [ex5] at e2
          exact exe_appB e2
        refine sX11_turn_72 (fun y => absurd rfl y) (fun _ => ?_)
        refine sX11_turn_75 rfl ?_
        refine sX11_turn_76 rfl ?_
        refine tX11_turn_77 hS ?_
        rw [e29]
        refine sX11_turn_80 rfl ?_
        refine tX11_turn_81 hS ?_
        rw [e30]
        refine tX11_turn_84 hS (Nat.le_of_ble_eq_true rfl) ?_
        refine c_failed hS ?_
        exact sX11_turn_87 (kF f p exf f0 f1 _ (fin K5 N5 S5 f (fH_t f14 f5) x5 (by rw [gs5 67 (by decide) (by decide), vup_n (by decide)]; exact w367) (fun k hk => by rw [gs5 _ (by omega) (by omega)]; exact wk4 k hk)))
    · rw [hmg] at ex
      refine sX11_turn_42 (fun y => absurd rfl y) (fun _ => ?_)
      refine sX11_turn_45 rfl ?_
      refine sX11_turn_46 rfl ?_
      refine tX11_turn_47 hS ?_
      rw [e29]
      refine sX11_turn_50 rfl ?_
      refine tX11_turn_51 hS ?_
      rw [e30]
      refine tX11_turn_54 hS (Nat.le_of_ble_eq_true rfl) ?_
      refine c_failed hS ?_
      exact sX11_turn_57 (kF f p (exe_appB ex) f0 f1 _ (fin K3 N3 S3 f (fH_t f2 f3) x3 (by rw [gs 67 (by decide) (by decide)]; exact hS67) (fun k _ => gs _ (by omega) (by omega))))
end RTurn
