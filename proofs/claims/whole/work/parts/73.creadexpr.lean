section CExpr2
variable {g : xG} {l : Launch} {h : xH} {Q : Option Value → xH → Prop} {w m u : Nat} {C : Nat → Nat} {J : Nat → Nat → Int32}
theorem c_readMinus {a i dp : Nat} {H : List (Nat × Nat)} (hQ : CQ h w) (ham : a ≤ m) (hl : H.length < 88) (hp : PT J w C m a i H dp) (k1 : tkK C m a = 45 → ∀ J', fC w i J J' → PT J' w C m (nx C m a) i ((13, a) :: H) dp → Q none (xJ h J')) (k0 : tkK C m a ≠ 45 → Q none (xJ h J)) : ac g l mX6_readMinus [.ref (w + 13)] (xJ h J) Q := by
  refine ac_of (by decide) (Nat.le_of_ble_eq_true rfl) ?_
  have hQ' := hQ
  obtain ⟨hW, t13, ⟨q0, q1, q2⟩, t16, t17, hK⟩ := hQ
  have t14 := hK.1
  have kb := (tkK_big C m a).1
  refine sX6_readMinus_0 rfl ?_
  refine jX6_readMinus_1 (by assumption) (by assumption) ?_
  refine jX6_readMinus_4 (by assumption) ?_
  rw [hp.2.1.2.1]
  refine nX6_readMinus_7 ?_
  refine nX6_readMinus_9 (by omega) (by omega) (fun z => sX6_readMinus_25 (k0 z)) (fun z => ?_)
  refine sX6_readMinus_12 rfl ?_
  refine nX6_readMinus_13 ?_
  refine jX6_readMinus_15 (Nat.le_of_ble_eq_true rfl) (by assumption) ?_
  refine c_hold (s := 13) hQ' hl hp (fun J1 f1 f2 f3 => ?_)
  refine sX6_readMinus_18 rfl ?_
  refine jX6_readMinus_19 (by assumption) (by assumption) ?_
  refine jX6_readMinus_22 (Nat.le_of_ble_eq_true rfl) (by assumption) ?_
  refine c_nx6 hQ' ham f3 (fun J2 g1 g2 g3 => ?_)
  exact sX6_readMinus_25 (k1 z J2 (fC_t f2 g2 (Nat.le_refl _)) g3)
theorem c_openNested {a i dp : Nat} {H : List (Nat × Nat)} (hQ : CQ h w) (ham : a ≤ m) (hl : H.length < 88) (hp : PT J w C m a i H dp) (k : ∀ J', fC w i J J' → PT J' w C m (nx C m a) i ((10, 0) :: H) (dp + 1) → Q none (xJ h J')) : ac g l mX6_openNested [.ref (w + 13)] (xJ h J) Q := by
  refine ac_of (by decide) (Nat.le_of_ble_eq_true rfl) ?_
  have hQ' := hQ
  obtain ⟨hW, t13, ⟨q0, q1, q2⟩, t16, t17, hK⟩ := hQ
  have t14 := hK.1
  refine sX6_openNested_0 rfl ?_
  refine nX6_openNested_1 ?_
  refine jX6_openNested_3 (Nat.le_of_ble_eq_true rfl) (by assumption) ?_
  refine c_hold (s := 10) hQ' hl hp (fun J1 f1 f2 f3 => ?_)
  obtain ⟨p1, p2, p3, ⟨p4, p6⟩, p5⟩ := f3
  refine sX6_openNested_6 rfl ?_
  refine sX6_openNested_7 rfl ?_
  refine jX6_openNested_8 (by assumption) ?_
  rw [p5]
  refine nX6_openNested_11 ?_
  refine nX6_openNested_12 ?_
  refine jX6_openNested_13 (by assumption) ?_
  refine sX6_openNested_16 rfl ?_
  refine jX6_openNested_17 (by assumption) (by assumption) ?_
  refine jX6_openNested_20 (Nat.le_of_ble_eq_true rfl) (by assumption) ?_
  have fr : ∀ r, r ≠ w + 13 → xup2 J1 (w + 13) 4 (nI (dp + 1)) r = J1 r := fun r hr => xup2_r hr
  refine c_nx6 (H := (10, 0) :: H) (dp := dp + 1) (i := i) hQ' ham ⟨TJ_c (fr _ (by omega)) (by rw [fr _ (by omega)]) p1, by unfold TS at p2 ⊢; rw [fr _ (by omega)]; exact p2, by rw [fr _ (by omega)]; exact p3, ⟨by rw [xup2_n (by decide)]; exact p4, ⟨by rw [fr _ (by omega)]; exact p6.1.1, fun z => absurd rfl z⟩, hs_c (fun j hj => ⟨by rw [fr _ (by omega)], by rw [fr _ (by omega)]⟩) p6.2⟩, xup2_s⟩ (fun J2 g1 g2 g3 => ?_)
  have F : fC w i J1 (xup2 J1 (w + 13) 4 (nI (dp + 1))) := ⟨fun r _ _ _ _ a5 _ _ _ => fr r a5, fun j _ => ⟨by rw [fr _ (by omega)], by rw [fr _ (by omega)], by rw [fr _ (by omega)]⟩⟩
  exact sX6_openNested_23 (k J2 (fC_t (fC_t f2 F (Nat.le_refl _)) g2 (Nat.le_refl _)) g3)
theorem c_closeNested {a i : Nat} {x y : Lv} {ys : List Lv} (hQ : CQ h w) (ham : a ≤ m) (hx : wl x) (hd : (y :: ys).length ≤ 20) (hi : i + (fl x).length ≤ 13668) (hp : PT J w C m a i (fl x ++ fO (y :: ys)) (y :: ys).length) (k : ∀ J', fC w i J J' → sg J' w i (r1 x) → (r1 x).length = (fl x).length → PT J' w C m (nx C m a) (i + (fl x).length) (fl y ++ fO ys) ys.length → Q none (xJ h J')) : ac g l mX6_closeNested [.ref (w + 13), .ref (w + 2)] (xJ h J) Q := by
  refine ac_of (by decide) (Nat.le_of_ble_eq_true rfl) ?_
  have hQ' := hQ
  obtain ⟨hW, t13, ⟨q0, q1, q2⟩, t16, t17, hK⟩ := hQ
  have t14 := hK.1
  have l1 := fl_len y
  obtain ⟨l2, l3⟩ := cl_len ys
  have hd' : ys.length + 1 ≤ 20 := hd
  have l4 : (fl y ++ fO ys).length ≤ 83 := by rw [List.length_append]; omega
  refine sX6_closeNested_0 rfl ?_
  refine nX6_closeNested_1 ?_
  refine sX6_closeNested_2 rfl ?_
  refine jX6_closeNested_3 (Nat.le_of_ble_eq_true rfl) (by assumption) ?_
  refine c_rel1 hQ' hx hd hi hp (fun J1 f1 f2 f3 f4 => ?_)
  obtain ⟨p1, p2, p3, ⟨p4, p6⟩, p5⟩ := f4
  have p4' : J1 (w + 13) 3 = nI ((fl y ++ fO ys).length + 1) := p4
  have p5' : J1 (w + 13) 4 = nI (ys.length + 1) := p5
  generalize hn : (fl y ++ fO ys).length = n at *
  refine sX6_closeNested_6 rfl ?_
  refine nX6_closeNested_7 ?_
  refine sX6_closeNested_8 rfl ?_
  refine jX6_closeNested_9 (by assumption) ?_
  rw [p4']
  refine nX6_closeNested_12 ?_
  refine nX6_closeNested_13 (by omega) ?_
  refine mX6_closeNested_14n (Nat.le_of_ble_eq_true rfl) (by omega) (by omega) ?_
  rw [Nat.max_eq_right (Nat.zero_le _), show n + 1 - 1 = n by omega]
  refine jX6_closeNested_17 (by assumption) ?_
  refine sX6_closeNested_20 rfl ?_
  refine sX6_closeNested_21 rfl ?_
  refine jX6_closeNested_22 (by assumption) ?_
  rw [xup2_n (by decide), p5']
  refine nX6_closeNested_25 ?_
  refine nX6_closeNested_26 (by omega) ?_
  rw [show ys.length + 1 - 1 = ys.length by omega]
  refine jX6_closeNested_27 (by assumption) ?_
  refine sX6_closeNested_30 rfl ?_
  refine jX6_closeNested_31 (by assumption) (by assumption) ?_
  refine jX6_closeNested_34 (Nat.le_of_ble_eq_true rfl) (by assumption) ?_
  have fr : ∀ r, r ≠ w + 13 → xup2 (xup2 J1 (w + 13) 3 (nI n)) (w + 13) 4 (nI ys.length) r = J1 r := fun r hr => by rw [xup2_r hr, xup2_r hr]
  have F : fC w i J1 (xup2 (xup2 J1 (w + 13) 3 (nI n)) (w + 13) 4 (nI ys.length)) := ⟨fun r _ _ _ _ a5 _ _ _ => fr r a5, fun j _ => ⟨by rw [fr _ (by omega)], by rw [fr _ (by omega)], by rw [fr _ (by omega)]⟩⟩
  have F2 : fC w (i + (fl x).length) J1 (xup2 (xup2 J1 (w + 13) 3 (nI n)) (w + 13) 4 (nI ys.length)) := ⟨fun r _ _ _ _ a5 _ _ _ => fr r a5, fun j _ => ⟨by rw [fr _ (by omega)], by rw [fr _ (by omega)], by rw [fr _ (by omega)]⟩⟩
  refine c_nx6 (H := fl y ++ fO ys) (dp := ys.length) (i := i + (fl x).length) hQ' ham ⟨TJ_c (fr _ (by omega)) (by rw [fr _ (by omega)]) p1, by unfold TS at p2 ⊢; rw [fr _ (by omega)]; exact p2, by rw [fr _ (by omega)]; exact p3, ⟨by rw [xup2_n (by decide), xup2_s, hn], hs_c (fun j hj => ⟨by rw [fr _ (by omega)], by rw [fr _ (by omega)]⟩) p6.2⟩, xup2_s⟩ (fun J2 g1 g2 g3 => ?_)
  exact sX6_closeNested_37 (k J2 (fC_t (fC_t f1 F (Nat.le_refl _)) g2 (by omega)) (sg_c (fC_t F2 g2 (Nat.le_refl _)) (by omega) f2) f3 g3)
def K0 (u : Nat) (h : xH) (Q : Option Value → xH → Prop) (C : Nat → Nat) (m w i : Nat) (J : Nat → Nat → Int32) (a : Nat) : Prop :=
  (∀ J' L e, PM0 C m a L true e → fC w i J J' → sg J' w i L → PT J' w C m e (i + L.length) [] 0 → e ≤ m → 3 * (i + L.length + u) ≤ 4 * e + 1 → Q (some (.int 1)) (xJ h J')) ∧
  (∀ J' e, (∃ L, PM0 C m a L false e) → fC w i J J' → TJ J' (w + 14) (w + 1) C m → TS J' (w + 14) C m e → e ≤ m → (∃ z, J' (w + 2) 3 = nI z ∧ i ≤ z ∧ z < 13668) → Q (some (.int 0)) (xJ h J'))
def Sl (C : Nat → Nat) (m a S : Nat) : Prop := (tkK C m a = 3 → 3 * S ≤ 4 * a) ∧ (tkK C m a = 2 → 3 * S ≤ 4 * a + 2) ∧ 3 * S ≤ 4 * a + 4
def Sd (C : Nat → Nat) (m a S : Nat) : Prop := 3 * S ≤ 4 * a + 1 ∧ (tkK C m a = 2 → 3 * S + 1 ≤ 4 * a) ∧ (tkK C m a = 3 → 3 * S + 3 ≤ 4 * a)
theorem c_readExpr {a i : Nat} (hQ : CQ h w) (ham : a ≤ m) (hi : 3 * (i + u) ≤ 4 * a) (hT : TJ J (w + 14) (w + 1) C m) (hS : TS J (w + 14) C m a) (hsz : J (w + 2) 3 = nI i) (k : K0 u h Q C m w i J a) : ac g l mX6_readExpr [.ref (w + 13), .ref (w + 2)] (xJ h J) Q := by
  refine ac_of (by decide) (Nat.le_of_ble_eq_true rfl) ?_
  have hQ' := hQ
  obtain ⟨hW, t13, ⟨q0, q1, q2⟩, t16, t17, hK⟩ := hQ
  have t14 := hK.1
  have hm := hT.2.1
  have hC := hT.2.2.1
  -- behind an operand that is whole
  have Jn : ∀ (f a i cnt : Nat) (x : Lv) (ys : List Lv) (J : Nat → Nat → Int32) (lv0 : List (Nat × Value)), (∀ (a i cnt : Nat) (x : Lv) (ys : List Lv) (J : Nat → Nat → Int32) (lv0 : List (Nat × Value)), m - a < f → a ≤ m → wl x → wls ys → ys.length ≤ 20 → PT J w C m a i (fl x ++ fO ys) ys.length → KT u h Q C m w i J 0 a x ys → Sl C m a (i + (fl x).length + cl ys + u) → cnt ≤ a → (∀ z ∈ ([(0, .ref (w + 13)), (1, .ref (w + 2)), (2, .int (nI cnt))] : List (Nat × Value)), z ∈ lv0) → aw g l mX6_readExpr 16 lv0 [] (xJ h J) Q) → m - a < f → a ≤ m → wl x → wls ys → ys.length ≤ 20 → PT J w C m a i (fl x ++ fO ys) ys.length → KT u h Q C m w i J 2 a x ys → Sd C m a (i + (fl x).length + cl ys + u) → cnt < a → (tkK C m a = 41 → ys = []) → (∀ z ∈ ([(0, .ref (w + 13)), (1, .ref (w + 2)), (2, .int (nI cnt))] : List (Nat × Value)), z ∈ lv0) → aw g l mX6_readExpr 117 lv0 [] (xJ h J) Q := by
    intro f a i cnt x ys J lv0 Hd hf ham hx hys hyl hp kk sd hcnt h41 hlv
    refine aw_lv hlv ?_
    have kb := (tkK_big C m a).1
    obtain ⟨sd1, sd2, sd3⟩ := sd
    have l1 := fl_len x
    obtain ⟨l2, l3⟩ := cl_len ys
    refine sX6_readExpr_117 rfl ?_
    refine jX6_readExpr_118 (by assumption) (by assumption) ?_
    refine jX6_readExpr_121 (by assumption) ?_
    rw [hp.2.1.2.1]
    refine sX6_readExpr_124 (Nat.le_of_ble_eq_true rfl) ?_
    refine c_jointFor kb ?_
    -- hold a sign and go on behind it
    have push : ∀ (s : Nat) (J1 : Nat → Nat → Int32) (H : List (Nat × Nat)) (x' : Lv) (i' : Nat) (lv1 : List (Nat × Value)), s < 16 → a < m → H.length < 88 → PT J1 w C m a i' H ys.length → (s, a) :: H = fl x' ++ fO ys → wl x' → i' + (fl x').length = i + (fl x).length + 1 ∨ i' + (fl x').length ≤ i + (fl x).length + 1 → KT u h Q C m w i' J1 0 (nx C m a) x' ys → (∀ z ∈ ([(0, .ref (w + 13)), (1, .ref (w + 2)), (2, .int (nI cnt)), (3, .int (nI s))] : List (Nat × Value)), z ∈ lv1) → aw g l mX6_readExpr 146 lv1 [] (xJ h J1) Q := by
      intro s J1 H x' i' lv1 hs ha hH hp1 eH hx' hle k1 hlv1
      refine aw_lv hlv1 ?_
      have ng := nx_gt (C := C) ha
      have nl : nx C m a ≤ m := nx_le hC ham
      refine sX6_readExpr_146 rfl ?_
      refine sX6_readExpr_147 ?_
      refine sX6_readExpr_148 (fun _ => ?_) (fun z => absurd z (oI_neg (by omega)))
      refine sX6_readExpr_164 rfl ?_
      refine sX6_readExpr_165 rfl ?_
      refine jX6_readExpr_166 (Nat.le_of_ble_eq_true rfl) (by assumption) ?_
      refine c_hold (s := s) hQ' hH hp1 (fun J2 f1 f2 f3 => ?_)
      refine sX6_readExpr_169 rfl ?_
      refine nX6_readExpr_170 ?_
      refine nX6_readExpr_172 (by omega) (by omega) (fun z => absurd z (by omega)) (fun _ => ?_)
      refine sX6_readExpr_175 rfl ?_
      refine jX6_readExpr_176 (by assumption) (by assumption) ?_
      refine jX6_readExpr_179 (Nat.le_of_ble_eq_true rfl) (by assumption) ?_
      refine c_nx6 hQ' ham f3 (fun J3 g1 g2 g3 => ?_)
      refine nX6_readExpr_182 rfl ?_
      refine sX6_readExpr_185 ?_
      rw [eH] at g3
      exact Hd (nx C m a) i' (cnt + 1) x' ys J3 _ (by omega) nl hx' hys hyl g3 (KT_0 (fun _ _ _ pm => pm) (fC_t f2 g2 (Nat.le_refl _)) k1) ⟨fun _ => by omega, fun _ => by omega, by omega⟩ (by omega) (fun z hz => by simp only [List.mem_cons, List.not_mem_nil, or_false] at hz; rcases hz with rfl | rfl | rfl <;> exact xlk_mem rfl)
    have ranked : ∀ (s r : Nat) (lv1 : List (Nat × Value)), rkO s = r → s < 17 → 10 < s → aw g l mX6_readExpr 142 [(0, .ref (w + 13)), (1, .ref (w + 2)), (2, .int (nI cnt)), (3, .int (nI s))] [.int (nI r), .ref (w + 13)] (xJ h J) Q → (∀ z ∈ ([(0, .ref (w + 13)), (1, .ref (w + 2)), (2, .int (nI cnt))] : List (Nat × Value)), z ∈ lv1) → aw g l mX6_readExpr 127 lv1 [.int (nI s)] (xJ h J) Q := by
      intro s r lv1 hr hs hs2 k1 hlv1
      refine aw_lv hlv1 ?_
      refine sX6_readExpr_127 ?_
      refine sX6_readExpr_128 rfl ?_
      refine sX6_readExpr_129 rfl ?_
      refine sX6_readExpr_130 ?_
      refine sX6_readExpr_131 (fun _ => ?_) (fun z => absurd z (oI_neg (by omega)))
      refine sX6_readExpr_138 rfl ?_
      refine sX6_readExpr_139 (Nat.le_of_ble_eq_true rfl) ?_
      refine c_rankOf (by omega) ?_
      rw [hr]
      exact aw_lv (fun z hz => by simp only [List.mem_cons, List.not_mem_nil, or_false] at hz; rcases hz with rfl | rfl | rfl | rfl <;> exact xlk_mem rfl) k1
    unfold jt
    have len : (fl x ++ fO ys).length ≤ 83 := by rw [List.length_append]; omega
    by_cases z43 : tkK C m a = 43
    · rw [if_pos z43]
      refine ranked 11 1 _ rfl (by decide) (by decide) ?_ (fun z hz => by simp only [List.mem_cons, List.not_mem_nil, or_false] at hz; rcases hz with rfl | rfl | rfl <;> exact xlk_mem rfl)
      refine sX6_readExpr_142 rfl ?_
      refine jX6_readExpr_143 (Nat.le_of_ble_eq_true rfl) (by assumption) ?_
      refine c_rel1 hQ' hx hyl (by omega) hp (fun J1 f1 f2 f3 f4 => ?_)
      refine push 11 J1 (fO ys) ((11, a), (0, 0), (0, 0)) _ _ (by decide) (tkK_lt (C := C) (by omega)) (by omega) f4 rfl ⟨Or.inr (Or.inl rfl), Or.inl rfl, Or.inl rfl⟩ (Or.inl rfl) ?_ (fun z hz => by simp only [List.mem_cons, List.not_mem_nil, or_false] at hz; rcases hz with rfl | rfl | rfl | rfl <;> exact xlk_mem rfl)
      rw [← f3]
      exact KT_s (r1 x) (fun L o e pm => pm_13 z43 pm) f1 f2 kk
    rw [if_neg z43]
    by_cases z45 : tkK C m a = 45
    · rw [if_pos z45]
      refine ranked 12 1 _ rfl (by decide) (by decide) ?_ (fun z hz => by simp only [List.mem_cons, List.not_mem_nil, or_false] at hz; rcases hz with rfl | rfl | rfl <;> exact xlk_mem rfl)
      refine sX6_readExpr_142 rfl ?_
      refine jX6_readExpr_143 (Nat.le_of_ble_eq_true rfl) (by assumption) ?_
      refine c_rel1 hQ' hx hyl (by omega) hp (fun J1 f1 f2 f3 f4 => ?_)
      refine push 12 J1 (fO ys) ((12, a), (0, 0), (0, 0)) _ _ (by decide) (tkK_lt (C := C) (by omega)) (by omega) f4 rfl ⟨Or.inr (Or.inr (Or.inl rfl)), Or.inl rfl, Or.inl rfl⟩ (Or.inl rfl) ?_ (fun z hz => by simp only [List.mem_cons, List.not_mem_nil, or_false] at hz; rcases hz with rfl | rfl | rfl | rfl <;> exact xlk_mem rfl)
      rw [← f3]
      exact KT_s (r1 x) (fun L o e pm => pm_14 z45 pm) f1 f2 kk
    rw [if_neg z45]
    by_cases z42 : tkK C m a = 42
    · rw [if_pos z42]
      refine ranked 14 3 _ rfl (by decide) (by decide) ?_ (fun z hz => by simp only [List.mem_cons, List.not_mem_nil, or_false] at hz; rcases hz with rfl | rfl | rfl <;> exact xlk_mem rfl)
      refine sX6_readExpr_142 rfl ?_
      refine jX6_readExpr_143 (Nat.le_of_ble_eq_true rfl) (by assumption) ?_
      refine c_rel3 hQ' hx hyl (by omega) hp (fun J1 f1 f2 f3 f4 => ?_)
      refine push 14 J1 (op x.1 ++ fO ys) (x.1, (14, a), (0, 0)) _ _ (by decide) (tkK_lt (C := C) (by omega)) (by have := op_len x.1; rw [List.length_append]; omega) f4 rfl ⟨hx.1, Or.inr (Or.inl rfl), Or.inl rfl⟩ (Or.inl ?_) ?_ (fun z hz => by simp only [List.mem_cons, List.not_mem_nil, or_false] at hz; rcases hz with rfl | rfl | rfl | rfl <;> exact xlk_mem rfl)
      · show i + (r3 x).length + ((op x.1).length + 1) = _; omega
      · exact KT_s (r3 x) (fun L o e pm => pm_15 z42 pm) f1 f2 kk
    rw [if_neg z42]
    by_cases z47 : tkK C m a = 47
    · rw [if_pos z47]
      refine ranked 15 3 _ rfl (by decide) (by decide) ?_ (fun z hz => by simp only [List.mem_cons, List.not_mem_nil, or_false] at hz; rcases hz with rfl | rfl | rfl <;> exact xlk_mem rfl)
      refine sX6_readExpr_142 rfl ?_
      refine jX6_readExpr_143 (Nat.le_of_ble_eq_true rfl) (by assumption) ?_
      refine c_rel3 hQ' hx hyl (by omega) hp (fun J1 f1 f2 f3 f4 => ?_)
      refine push 15 J1 (op x.1 ++ fO ys) (x.1, (15, a), (0, 0)) _ _ (by decide) (tkK_lt (C := C) (by omega)) (by have := op_len x.1; rw [List.length_append]; omega) f4 rfl ⟨hx.1, Or.inr (Or.inr rfl), Or.inl rfl⟩ (Or.inl ?_) ?_ (fun z hz => by simp only [List.mem_cons, List.not_mem_nil, or_false] at hz; rcases hz with rfl | rfl | rfl | rfl <;> exact xlk_mem rfl)
      · show i + (r3 x).length + ((op x.1).length + 1) = _; omega
      · exact KT_s (r3 x) (fun L o e pm => pm_16 z47 pm) f1 f2 kk
    rw [if_neg z47]
    by_cases zR : tkK C m a = 2 ∨ tkK C m a = 3 ∨ tkK C m a = 40
    · rw [if_pos zR]
      refine ranked 16 4 _ rfl (by decide) (by decide) ?_ (fun z hz => by simp only [List.mem_cons, List.not_mem_nil, or_false] at hz; rcases hz with rfl | rfl | rfl <;> exact xlk_mem rfl)
      refine sX6_readExpr_142 rfl ?_
      refine jX6_readExpr_143 (Nat.le_of_ble_eq_true rfl) (by assumption) ?_
      refine c_rel4 hQ' hx hyl (by omega) hp (fun J1 f1 f2 f3 f4 => ?_)
      have lo : (op x.2.1 ++ (op x.1 ++ fO ys)).length < 88 := by
        have := op_len x.1; have := op_len x.2.1
        rw [List.length_append, List.length_append]; omega
      have ef : (16, a) :: (op x.2.1 ++ (op x.1 ++ fO ys)) = fl (x.1, x.2.1, (16, a)) ++ fO ys := by
        show _ = (16, a) :: (op x.2.1 ++ op x.1) ++ fO ys
        rw [List.cons_append, List.append_assoc]
      have el : (fl (x.1, x.2.1, (16, a))).length = (op x.2.1).length + (op x.1).length + 1 := by
        show (op x.2.1 ++ op x.1).length + 1 = _
        rw [List.length_append]
      refine sX6_readExpr_146 rfl ?_
      refine sX6_readExpr_147 ?_
      refine sX6_readExpr_148 (fun _ => ?_) (fun z => absurd z (by decide))
      refine sX6_readExpr_164 rfl ?_
      refine sX6_readExpr_165 rfl ?_
      refine jX6_readExpr_166 (Nat.le_of_ble_eq_true rfl) (by assumption) ?_
      refine c_hold (s := 16) hQ' lo f4 (fun J2 g1 g2 g3 => ?_)
      refine sX6_readExpr_169 rfl ?_
      refine sX6_readExpr_170 ?_
      refine sX6_readExpr_172 (fun _ => ?_) (fun z => absurd rfl z)
      refine nX6_readExpr_182 rfl ?_
      refine sX6_readExpr_185 ?_
      rw [ef] at g3
      refine Hd a (i + (r4 x).length) (cnt + 1) (x.1, x.2.1, (16, a)) ys J2 _ hf ham ⟨hx.1, hx.2.1, Or.inr rfl⟩ hys hyl g3 (KT_0 (fun _ _ _ pm => pm) g2 (KT_s (r4 x) (fun L o e pm => pm_17 zR pm) f1 f2 kk)) ?_ (by omega) (fun z hz => by simp only [List.mem_cons, List.not_mem_nil, or_false] at hz; rcases hz with rfl | rfl | rfl <;> exact xlk_mem rfl)
      rw [el]
      refine ⟨fun v => ?_, fun v => ?_, ?_⟩
      · have := sd3 v; omega
      · have := sd2 v; omega
      · omega
    rw [if_neg zR]
    -- nothing goes on here
    refine sX6_readExpr_127 ?_
    refine sX6_readExpr_128 rfl ?_
    refine sX6_readExpr_129 rfl ?_
    refine sX6_readExpr_130 ?_
    refine sX6_readExpr_131 (fun z => absurd rfl z) (fun _ => ?_)
    refine nX6_readExpr_134 ?_
    refine sX6_readExpr_135 ?_
    refine sX6_readExpr_142 rfl ?_
    refine jX6_readExpr_143 (Nat.le_of_ble_eq_true rfl) (by assumption) ?_
    refine c_rel1 hQ' hx hyl (by omega) hp (fun J1 f1 f2 f3 f4 => ?_)
    refine sX6_readExpr_146 rfl ?_
    refine sX6_readExpr_147 ?_
    refine sX6_readExpr_148 (fun z => absurd rfl z) (fun _ => ?_)
    refine sX6_readExpr_151 rfl ?_
    refine jX6_readExpr_152 (by assumption) ?_
    rw [f4.2.2.2.2]
    have pm := pm_18 (C := C) (m := m) (a := a) (x := x) (ys := ys) (by omega) (by omega) (by omega) z42 z43 z45 z47 h41
    refine nX6_readExpr_155 (by omega) (fun z => ?_) (fun z => ?_)
    · refine sX6_readExpr_162 ?_
      rw [show decide (ys.length = 0) = false from decide_eq_false z] at pm
      exact sX6_readExpr_163 (Or.inl rfl) (kk.2 J1 a ⟨_, pm⟩ f1 f4.1 f4.2.1 ham ⟨_, f4.2.2.1, by omega, by omega⟩)
    · refine sX6_readExpr_158 ?_
      refine sX6_readExpr_159 ?_
      rw [show decide (ys.length = 0) = true from decide_eq_true z] at pm
      have e0 : ys = [] := List.length_eq_zero_iff.mp z
      subst e0
      rw [← f3] at f4
      exact sX6_readExpr_163 (Or.inr rfl) (kk.1 J1 (r1 x) a pm f1 f2 f4 ham (by rw [f3]; have : cl [] = 0 := rfl; omega))
  -- closing brackets
  have Tl : ∀ (f : Nat) (ys : List Lv) (a i cnt : Nat) (x : Lv) (J : Nat → Nat → Int32) (lv0 : List (Nat × Value)), (∀ (a i cnt : Nat) (x : Lv) (ys : List Lv) (J : Nat → Nat → Int32) (lv0 : List (Nat × Value)), m - a < f → a ≤ m → wl x → wls ys → ys.length ≤ 20 → PT J w C m a i (fl x ++ fO ys) ys.length → KT u h Q C m w i J 0 a x ys → Sl C m a (i + (fl x).length + cl ys + u) → cnt ≤ a → (∀ z ∈ ([(0, .ref (w + 13)), (1, .ref (w + 2)), (2, .int (nI cnt))] : List (Nat × Value)), z ∈ lv0) → aw g l mX6_readExpr 16 lv0 [] (xJ h J) Q) → m - a < f → a ≤ m → wl x → wls ys → ys.length ≤ 20 → PT J w C m a i (fl x ++ fO ys) ys.length → KT u h Q C m w i J 2 a x ys → Sd C m a (i + (fl x).length + cl ys + u) → cnt < a → (∀ z ∈ ([(0, .ref (w + 13)), (1, .ref (w + 2)), (2, .int (nI cnt)), (3, .int (nI ys.length))] : List (Nat × Value)), z ∈ lv0) → aw g l mX6_readExpr 80 lv0 [] (xJ h J) Q := by
    intro f ys
    induction ys with
    | nil =>
      intro a i cnt x J lv0 Hd hf ham hx hys hyl hp kk sd hcnt hlv
      refine aw_lv hlv ?_
      refine sX6_readExpr_80 rfl ?_
      refine nX6_readExpr_81 (by decide) (fun _ => ?_) (fun z => absurd z (by decide))
      exact Jn f a i cnt x [] J _ Hd hf ham hx hys hyl hp kk sd hcnt (fun _ => rfl) (fun z hz => by simp only [List.mem_cons, List.not_mem_nil, or_false] at hz; rcases hz with rfl | rfl | rfl <;> exact xlk_mem rfl)
    | cons y ys ih =>
      intro a i cnt x J lv0 Hd hf ham hx hys hyl hp kk sd hcnt hlv
      refine aw_lv hlv ?_
      have kb := (tkK_big C m a).1
      have hyl' : ys.length + 1 ≤ 20 := hyl
      have hcl : cl (y :: ys) = (fl y).length + cl ys := rfl
      refine sX6_readExpr_80 rfl ?_
      refine nX6_readExpr_81 (show ys.length + 1 < 2 ^ 31 by omega) (fun z => absurd z (Nat.succ_ne_zero _)) (fun _ => ?_)
      refine sX6_readExpr_84 rfl ?_
      refine jX6_readExpr_85 (by assumption) (by assumption) ?_
      refine jX6_readExpr_88 (by assumption) ?_
      rw [hp.2.1.2.1]
      refine nX6_readExpr_91 ?_
      refine nX6_readExpr_93 (by omega) (by omega) (fun z => ?_) (fun z => ?_)
      · exact Jn f a i cnt x (y :: ys) J _ Hd hf ham hx hys hyl hp kk sd hcnt (fun v => absurd v z) (fun z hz => by simp only [List.mem_cons, List.not_mem_nil, or_false] at hz; rcases hz with rfl | rfl | rfl <;> exact xlk_mem rfl)
      have l1 := fl_len x
      have ha : a < m := tkK_lt (C := C) (by omega)
      have ng := nx_gt (C := C) ha
      have nl : nx C m a ≤ m := nx_le hC ham
      obtain ⟨sd1, sd2, sd3⟩ := sd
      refine sX6_readExpr_96 rfl ?_
      refine sX6_readExpr_97 rfl ?_
      refine jX6_readExpr_98 (Nat.le_of_ble_eq_true rfl) (by assumption) ?_
      refine c_closeNested hQ' ham hx hyl (by omega) hp (fun J1 f1 f2 f3 f4 => ?_)
      have k1 : KT u h Q C m w (i + (fl x).length) J1 1 (nx C m a) y ys := by
        have := KT_s (r1 x) (fun L o e pm => pm_12 z pm) f1 f2 kk
        rw [f3] at this
        exact this
      refine sX6_readExpr_101 rfl ?_
      refine sX6_readExpr_102 rfl ?_
      refine jX6_readExpr_103 (Nat.le_of_ble_eq_true rfl) (by assumption) ?_
      refine c_readPower hQ' nl (by omega) f4 k1 (fun J' q => ?_) (fun J2 a2 i2 k2 p2 hm2 h2 => ?_)
      · refine sX6_readExpr_106 (fun v => absurd rfl v) (fun _ => ?_)
        refine sX6_readExpr_109 ?_
        exact sX6_readExpr_110 (Or.inl rfl) q
      · refine sX6_readExpr_106 (fun _ => ?_) (fun v => absurd v (by decide))
        refine sX6_readExpr_111 rfl ?_
        rw [show nI (y :: ys).length + -1 = nI ys.length by
          show nI (ys.length + 1) + -1 = nI ys.length
          rw [show (-1 : Int32) = - nI 1 by rfl, ← Int32.sub_eq_add_neg, pk_sub (by omega)]; rfl]
        refine sX6_readExpr_114 ?_
        refine ih a2 i2 cnt y J2 _ Hd (by omega) hm2 hys.1 hys.2 (by omega) p2 k2 ?_ (by omega) (fun z hz => by simp only [List.mem_cons, List.not_mem_nil, or_false] at hz; rcases hz with rfl | rfl | rfl | rfl <;> exact xlk_mem rfl)
        refine ⟨by omega, fun _ => by omega, fun _ => by omega⟩
  have Hd : ∀ (f a i cnt : Nat) (x : Lv) (ys : List Lv) (J : Nat → Nat → Int32) (lv0 : List (Nat × Value)), m - a < f → a ≤ m → wl x → wls ys → ys.length ≤ 20 → PT J w C m a i (fl x ++ fO ys) ys.length → KT u h Q C m w i J 0 a x ys → Sl C m a (i + (fl x).length + cl ys + u) → cnt ≤ a → (∀ z ∈ ([(0, .ref (w + 13)), (1, .ref (w + 2)), (2, .int (nI cnt))] : List (Nat × Value)), z ∈ lv0) → aw g l mX6_readExpr 16 lv0 [] (xJ h J) Q := by
    intro f
    induction f with
    | zero => intro a i cnt x ys J lv0 hf; omega
    | succ f ih =>
      intro a i cnt x ys J lv0 hf ham hx hys hyl hp kk sl hcnt hlv
      refine aw_lv hlv ?_
      have kb := (tkK_big C m a).1
      have l1 := fl_len x
      obtain ⟨l2, l3⟩ := cl_len ys
      obtain ⟨sl1, sl2, sl3⟩ := sl
      have len : (fl x ++ fO ys).length ≤ 83 := by rw [List.length_append]; omega
      refine sX6_readExpr_16 rfl ?_
      refine nX6_readExpr_17 ?_
      refine nX6_readExpr_20 (by omega) (by omega) (fun z => absurd z (by omega)) (fun _ => ?_)
      refine sX6_readExpr_23 rfl ?_
      refine jX6_readExpr_24 (by assumption) (by assumption) ?_
      refine jX6_readExpr_27 (by assumption) ?_
      rw [hp.2.1.2.1]
      refine nX6_readExpr_30 ?_
      refine nX6_readExpr_32 (by omega) (by omega) (fun z => ?_) (fun z => ?_)
      · refine sX6_readExpr_57 rfl ?_
        refine sX6_readExpr_58 rfl ?_
        refine jX6_readExpr_59 (Nat.le_of_ble_eq_true rfl) (by assumption) ?_
        refine c_readOne hQ' ham (fun v => by have := sl1 v; omega) (by omega) z hp kk (fun J' q => ?_) (fun J1 a1 i1 k1 p1 ha1 hm1 hi1 hN hD hor => ?_)
        · refine sX6_readExpr_62 (fun _ => ?_) (fun v => absurd rfl v)
          refine sX6_readExpr_73 ?_
          exact sX6_readExpr_74 (Or.inl rfl) q
        refine sX6_readExpr_62 (fun v => absurd v (by decide)) (fun _ => ?_)
        have s1 : Sd C m a1 (i1 + (fl x).length + cl ys + u) := by
          rcases hor with v | v
          · obtain ⟨b1, b2, b3⟩ := hN v
            have := sl2 v
            refine ⟨by omega, fun u => ?_, fun u => ?_⟩
            · have := b3 (Or.inl u); omega
            · have := b3 (Or.inr u); omega
          · have := sl1 v
            rcases hD v with ⟨b1, b2⟩ | ⟨b1, b2⟩
            · refine ⟨by omega, fun u => by omega, fun u => ?_⟩
              have := b2 u; omega
            · exact ⟨by omega, fun _ => by omega, fun _ => by omega⟩
        refine sX6_readExpr_65 rfl ?_
        refine sX6_readExpr_66 rfl ?_
        refine jX6_readExpr_67 (Nat.le_of_ble_eq_true rfl) (by assumption) ?_
        refine c_readPower hQ' hm1 (by have := s1.1; omega) p1 k1 (fun J' q => ?_) (fun J2 a2 i2 k2 p2 hm2 h2 => ?_)
        · refine sX6_readExpr_70 (fun v => absurd rfl v) (fun _ => ?_)
          refine sX6_readExpr_73 ?_
          exact sX6_readExpr_74 (Or.inl rfl) q
        refine sX6_readExpr_70 (fun _ => ?_) (fun v => absurd v (by decide))
        refine sX6_readExpr_75 rfl ?_
        refine jX6_readExpr_76 (by assumption) ?_
        rw [p2.2.2.2.2]
        refine sX6_readExpr_79 ?_
        refine Tl f ys a2 i2 cnt x J2 _ ih (by omega) hm2 hx hys hyl p2 k2 ?_ (by omega) (fun z hz => by simp only [List.mem_cons, List.not_mem_nil, or_false] at hz; rcases hz with rfl | rfl | rfl | rfl <;> exact xlk_mem rfl)
        rcases h2 with ⟨rfl, rfl⟩ | ⟨b1, b2⟩
        · exact s1
        · have := s1.1
          exact ⟨by omega, fun _ => by omega, fun _ => by omega⟩
      · have ha : a < m := tkK_lt (C := C) (by omega)
        have ng := nx_gt (C := C) ha
        have nl : nx C m a ≤ m := nx_le hC ham
        refine sX6_readExpr_35 rfl ?_
        refine jX6_readExpr_36 (by assumption) ?_
        rw [hp.2.2.2.2]
        refine nX6_readExpr_39 ?_
        refine nX6_readExpr_41 (by omega) (by omega) (fun y => ?_) (fun y => ?_)
        · refine sX6_readExpr_46 rfl ?_
          refine jX6_readExpr_47 (Nat.le_of_ble_eq_true rfl) (by assumption) ?_
          refine c_openNested hQ' ham (by omega) hp (fun J1 f1 f2 => ?_)
          refine sX6_readExpr_50 rfl ?_
          refine jX6_readExpr_51 (Nat.le_of_ble_eq_true rfl) (by assumption) ?_
          have hl1 : ((10, 0) :: (fl x ++ fO ys)).length < 88 := by show (fl x ++ fO ys).length + 1 < 88; omega
          have hcl : cl (x :: ys) = (fl x).length + cl ys := rfl
          refine c_readMinus hQ' nl hl1 f2 (fun v J2 g1 g2 => ?_) (fun v => ?_)
          · have n1m : nx C m a < m := tkK_lt (C := C) (by omega)
            have nl2 : nx C m (nx C m a) ≤ m := nx_le hC nl
            have ng2 := nx_gt (C := C) n1m
            refine sX6_readExpr_54 ?_
            refine nX6_readExpr_182 rfl ?_
            refine sX6_readExpr_185 ?_
            refine ih (nx C m (nx C m a)) i (cnt + 1) ((13, nx C m a), (0, 0), (0, 0)) (x :: ys) J2 _ (by omega) nl2 ⟨Or.inr (Or.inr (Or.inr rfl)), Or.inl rfl, Or.inl rfl⟩ ⟨hx, hys⟩ y g2 (KT_0 (fun L o e pm => pm_2 z y v pm) (fC_t f1 g1 (Nat.le_refl _)) kk) ?_ (by omega) (fun z hz => by simp only [List.mem_cons, List.not_mem_nil, or_false] at hz; rcases hz with rfl | rfl | rfl <;> exact xlk_mem rfl)
            have e1 : (fl ((13, nx C m a), (0, 0), (0, 0))).length = 1 := rfl
            rw [e1, hcl]
            exact ⟨fun _ => by omega, fun _ => by omega, by omega⟩
          · refine sX6_readExpr_54 ?_
            refine nX6_readExpr_182 rfl ?_
            refine sX6_readExpr_185 ?_
            refine ih (nx C m a) i (cnt + 1) Lv0 (x :: ys) J1 _ (by omega) nl ⟨Or.inl rfl, Or.inl rfl, Or.inl rfl⟩ ⟨hx, hys⟩ y f2 (KT_0 (fun L o e pm => pm_3 z y v pm) f1 kk) ?_ (by omega) (fun z hz => by simp only [List.mem_cons, List.not_mem_nil, or_false] at hz; rcases hz with rfl | rfl | rfl <;> exact xlk_mem rfl)
            have e1 : (fl Lv0).length = 0 := rfl
            rw [e1, hcl]
            exact ⟨fun _ => by omega, fun _ => by omega, by omega⟩
        · refine sX6_readExpr_44 ?_
          exact sX6_readExpr_45 (Or.inl rfl) (kk.2 J a ⟨[], pm_1 z y⟩ (fC_r _ _ _) hp.1 hp.2.1 ham ⟨_, hp.2.2.1, by omega, by omega⟩)
  refine sX6_readExpr_0 rfl ?_
  refine nX6_readExpr_1 ?_
  refine jX6_readExpr_2 (by assumption) ?_
  refine sX6_readExpr_5 rfl ?_
  refine nX6_readExpr_6 ?_
  refine jX6_readExpr_7 (by assumption) ?_
  obtain ⟨J1, hJ1⟩ : ∃ J1, J1 = xup2 (xup2 J (w + 13) 3 (nI 0)) (w + 13) 4 (nI 0) := ⟨_, rfl⟩
  have fr : ∀ r, r ≠ w + 13 → J1 r = J r := fun r hr => by rw [hJ1, xup2_r hr, xup2_r hr]
  rw [← hJ1]
  have hp1 : PT J1 w C m a i [] 0 := ⟨TJ_c (fr _ (by omega)) (by rw [fr _ (by omega)]) hT, by unfold TS at hS ⊢; rw [fr _ (by omega)]; exact hS, by rw [fr _ (by omega)]; exact hsz, ⟨by rw [hJ1, xup2_n (by decide), xup2_s]; rfl, trivial⟩, by rw [hJ1, xup2_s]⟩
  have F : fC w i J J1 := ⟨fun r _ _ _ _ a5 _ _ _ => fr r a5, fun j _ => ⟨by rw [fr _ (by omega)], by rw [fr _ (by omega)], by rw [fr _ (by omega)]⟩⟩
  refine sX6_readExpr_10 rfl ?_
  refine jX6_readExpr_11 (Nat.le_of_ble_eq_true rfl) (by assumption) ?_
  refine c_readMinus hQ' ham (by decide) hp1 (fun z J2 g1 g2 => ?_) (fun z => ?_)
  · have ha : a < m := tkK_lt (C := C) (by omega)
    have ng := nx_gt (C := C) ha
    have nl : nx C m a ≤ m := nx_le hC ham
    refine nX6_readExpr_14 ?_
    refine sX6_readExpr_15 ?_
    refine Hd (m + 1) (nx C m a) i 0 ((13, a), (0, 0), (0, 0)) [] J2 _ (by omega) nl ⟨Or.inr (Or.inr (Or.inr rfl)), Or.inl rfl, Or.inl rfl⟩ trivial (by decide) g2 ⟨fun J' L e pm f' s' p' he hb => k.1 J' L e (Or.inl ⟨z, pm⟩) (fC_t (fC_t F g1 (Nat.le_refl _)) f' (Nat.le_refl _)) s' p' he hb, fun J' e pm f' y1 y2 he hz => k.2 J' e (by obtain ⟨L, pm⟩ := pm; exact ⟨L, Or.inl ⟨z, pm⟩⟩) (fC_t (fC_t F g1 (Nat.le_refl _)) f' (Nat.le_refl _)) y1 y2 he hz⟩ ?_ (by omega) (fun z hz => by simp only [List.mem_cons, List.not_mem_nil, or_false] at hz; rcases hz with rfl | rfl | rfl <;> exact xlk_mem rfl)
    have e1 : (fl ((13, a), (0, 0), (0, 0))).length = 1 := rfl
    have e2 : cl [] = 0 := rfl
    rw [e1, e2]
    exact ⟨fun _ => by omega, fun _ => by omega, by omega⟩
  · refine nX6_readExpr_14 ?_
    refine sX6_readExpr_15 ?_
    refine Hd (m + 1) a i 0 Lv0 [] J1 _ (by omega) ham ⟨Or.inl rfl, Or.inl rfl, Or.inl rfl⟩ trivial (by decide) hp1 ⟨fun J' L e pm f' s' p' he hb => k.1 J' L e (Or.inr ⟨z, pm⟩) (fC_t F f' (Nat.le_refl _)) s' p' he hb, fun J' e pm f' y1 y2 he hz => k.2 J' e (by obtain ⟨L, pm⟩ := pm; exact ⟨L, Or.inr ⟨z, pm⟩⟩) (fC_t F f' (Nat.le_refl _)) y1 y2 he hz⟩ ?_ (by omega) (fun z hz => by simp only [List.mem_cons, List.not_mem_nil, or_false] at hz; rcases hz with rfl | rfl | rfl <;> exact xlk_mem rfl)
    have e1 : (fl Lv0).length = 0 := rfl
    have e2 : cl [] = 0 := rfl
    rw [e1, e2]
    exact ⟨fun _ => by omega, fun _ => by omega, by omega⟩
end CExpr2
