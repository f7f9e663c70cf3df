section RefExpr4
variable {g : xG} {l : Launch} {h : xH} {b : Nat} {Q : Option Value → xH → Prop} {C : Nat → Nat} {m d n lo B c : Nat} {E : Nat → Option (Nat × Vl)} {mg : Nat → Nat → Option Nat × Option Nat} {rc : Bool} {K0 : Nat → Nat → Int32} {N0 : Nat → Nat} {S0 : Nat → Vl}
theorem x_nest {a e : Nat} {x x' : Lv} {ys : List Lv} {L : List St} {o : Bool} (hS : RS h b) (hT : RT K0 C m d n lo) (h40 : tkK C m a = 40) (hl : ys.length < 20) (hx' : tkK C m (nx C m a) = 45 ∧ x' = ((13, nx C m a), (0, 0), (0, 0)) ∨ tkK C m (nx C m a) ≠ 45 ∧ x' = Lv0) (ih : X0 g l h b Q C m d n lo B c E mg rc K0 N0 S0 (if tkK C m (nx C m a) = 45 then nx C m (nx C m a) else nx C m a) x' (x :: ys) L o e) : X0 g l h b Q C m d n lo B c E mg rc K0 N0 S0 a x ys L o e := by
  intro K N S V y lv0 hz hL hr hF hlv
  have hC := hT.1
  have hm := hC.1
  have hnd : n + d = m := hT.2.1
  refine x_head hS (by omega) hz hL (fun v => (hr v).1) hlv (fun K1 hz1 hL1 hr1 => ?_)
  obtain ⟨z1, z2, z3, z4, z5, z6, z7⟩ := id hz1
  have ham : a < m := tkK_lt (C := C) (by omega)
  have tg := tkT_gt (C := C) ham
  have tl := tkT_le hC (Nat.le_of_lt ham)
  have ng := nx_gt (C := C) ham
  have nl : nx C m a ≤ m := nx_le hC (Nat.le_of_lt ham)
  obtain ⟨l1, l2, l3, l4, l5⟩ := id hL1
  refine sX11_expression_96 rfl ?_
  refine nX11_expression_97 ?_
  refine tX11_expression_99 hS (Nat.le_of_ble_eq_true rfl) ?_
  refine c_isSign11 hS (RT_E z1 hT) hL1 (by decide) (by decide) (fun _ => ?_) (fun v => absurd h40 v)
  refine sX11_expression_102 (fun v => absurd v (by decide)) (fun _ => ?_)
  refine sX11_expression_105 rfl ?_
  refine tX11_expression_106 hS ?_
  rw [z6]
  refine nX11_expression_109 ?_
  refine nX11_expression_111 (by omega) (by omega) (fun v => absurd v (by omega)) (fun _ => ?_)
  refine sX11_expression_114 rfl ?_
  refine tX11_expression_115 hS ?_
  rw [l4]
  refine sX11_expression_118 ?_
  refine sX11_expression_119 rfl ?_
  refine sX11_expression_120 rfl ?_
  refine tX11_expression_121 hS ?_
  rw [z6]
  refine nX11_expression_124 ?_
  refine nX11_expression_125 ?_
  refine tX11_expression_126 hS ?_
  refine sX11_expression_129 rfl ?_
  refine tX11_expression_130 hS (Nat.le_of_ble_eq_true rfl) ?_
  have q1 : (x :: ys).length = ys.length + 1 := rfl
  refine c_open (q := ys.length + 1) hS xup2_s (by omega) ?_
  generalize hK2 : xup2 (xup2 (xup2 (xup2 (xup2 K1 0 32 (nI (ys.length + 1))) 15 (ys.length + 1) (nI 0)) 16 (ys.length + 1) (nI 0)) 17 (ys.length + 1) (nI 0)) 18 (ys.length + 1) (nI 0) = K2
  have k0 : ∀ j, j ≠ 32 → K2 0 j = K1 0 j := fun j hj => by rw [← hK2, xup2_r (by decide), xup2_r (by decide), xup2_r (by decide), xup2_r (by decide), xup2_n hj]
  have kr : ∀ r, r ≠ 0 → r ≠ 15 → r ≠ 16 → r ≠ 17 → r ≠ 18 → K2 r = K1 r := fun r b0 b1 b2 b3 b4 => by rw [← hK2, xup2_r b4, xup2_r b3, xup2_r b2, xup2_r b1, xup2_r b0]
  have up1 : ∀ (K : Nat → Nat → Int32) (r i r' j : Nat) (v : Int32), j ≠ i → xup2 K r i v r' j = K r' j := fun K r i r' j v hj => by
    unfold xup2; rw [if_neg hj]; split <;> rfl
  have kj : ∀ r j, r ≠ 0 → j ≠ ys.length + 1 → K2 r j = K1 r j := fun r j b0 bj => by
    rw [← hK2, up1 _ _ _ _ _ _ bj, up1 _ _ _ _ _ _ bj, up1 _ _ _ _ _ _ bj, up1 _ _ _ _ _ _ bj, xup2_r b0]
  have f15 : K2 15 (ys.length + 1) = 0 := by rw [← hK2, xup2_r (by decide), xup2_r (by decide), xup2_r (by decide), xup2_s]; rfl
  have f16 : K2 16 (ys.length + 1) = 0 := by rw [← hK2, xup2_r (by decide), xup2_r (by decide), xup2_s]; rfl
  have f17 : K2 17 (ys.length + 1) = 0 := by rw [← hK2, xup2_r (by decide), xup2_s]; rfl
  have f18 : K2 18 (ys.length + 1) = 0 := by rw [← hK2, xup2_s]; rfl
  have F2 : fE K1 K2 := ⟨fun r b0 _ _ _ b4 => kr r b0 (by omega) (by omega) (by omega) (by omega), fun j hj => k0 j (by omega)⟩
  have hz2 : Zs rc K0 N0 S0 K2 N S (x :: ys).length := ⟨fE_t z1 F2, z2, RX_row (kr 1 (by decide) (by decide) (by decide) (by decide) (by decide)) (kr 2 (by decide) (by decide) (by decide) (by decide) (by decide)) (kr 3 (by decide) (by decide) (by decide) (by decide) (by decide)) z3, by rw [k0 29 (by decide)]; exact z4, by rw [k0 31 (by decide)]; exact z5, by rw [← hK2, xup2_r (by decide), xup2_r (by decide), xup2_r (by decide), xup2_r (by decide), xup2_s]; rfl, z7⟩
  refine sX11_expression_133 ?_
  refine sX11_expression_134 ?_
  refine sX11_expression_135 ?_
  refine sX11_expression_26 rfl ?_
  refine sX11_expression_28 (fun v => absurd v (by decide)) (fun _ => ?_)
  refine sX11_expression_31 rfl ?_
  refine tX11_expression_32 hS ?_
  rw [k0 29 (by decide), z4]
  refine nX11_expression_35 (by decide) (fun v => absurd rfl v) (fun _ => ?_)
  refine sX11_expression_38 rfl ?_
  refine tX11_expression_39 hS ?_
  rw [k0 31 (by decide), z5]
  refine sX11_expression_42 (fun v => absurd v (by decide)) (fun _ => ?_)
  refine sX11_expression_45 rfl ?_
  refine sX11_expression_46 rfl ?_
  refine tX11_expression_47 hS (Nat.le_of_ble_eq_true rfl) ?_
  refine c_lex hS (RT_E (fE_t z1 F2) hT) (by omega) (by omega) (fun K3 o3 t3 l3' => ?_)
  rw [show tkT C m a - d + d = tkT C m a by omega] at l3'
  have l3'' : RLx K3 C m d lo (nx C m a) := l3'
  have hz3 := Zs_o o3 hz2
  have sub : rc = true → gs K3 d (x :: ys) ∧ V = sts S (x :: ys) ∧ wv V := fun v => by
    obtain ⟨b1, b2, b3, b4, b5⟩ := hr1 v
    obtain ⟨-, b6, b7⟩ := hr v
    refine ⟨gs_c (fun r j c1 c2 c3 => ?_) (show gs K1 d (x :: ys) from ⟨⟨b1, b2, b3, b4⟩, b5⟩), b6, b7⟩
    rw [o3.1 r (by omega)]
    exact kj r j (by omega) (by omega)
  have flg : ∀ (K4 : Nat → Nat → Int32) (a' : Nat), (∀ r, r ≠ 0 → r ≠ 18 → K4 r = K2 r) → K4 18 (ys.length + 1) = (if tkK C m (nx C m a) = 45 then 1 else 0) → gs K4 d (x :: ys) → F0x K4 d a' x' (x :: ys) ∧ VV S x' (x :: ys) = sts S (x :: ys) := by
    intro K4 a' h4 h18 hg
    unfold F0x
    rw [q1]
    rcases hx' with ⟨v, rfl⟩ | ⟨v, rfl⟩
    · rw [if_pos v] at h18
      refine ⟨⟨⟨?_, fun u => (by cases u), fun u => (by cases u), fun u => absurd rfl u⟩, ⟨?_, h18, fun u => (by cases u), fun u => (by cases u), fun _ u => absurd rfl u⟩, ?_, fun u => absurd rfl u, hg⟩, rfl⟩
      · rw [h4 16 (by decide) (by decide), f16]; rfl
      · rw [h4 15 (by decide) (by decide), f15]; rfl
      · unfold gR; rw [h4 17 (by decide) (by decide), f17]; rfl
    · rw [if_neg v] at h18
      refine ⟨⟨⟨?_, fun u => (by cases u), fun u => (by cases u), fun u => absurd rfl u⟩, ⟨?_, h18, fun u => (by cases u), fun u => (by cases u), fun u => absurd rfl u⟩, ?_, fun u => absurd rfl u, hg⟩, rfl⟩
      · rw [h4 16 (by decide) (by decide), f16]; rfl
      · rw [h4 15 (by decide) (by decide), f15]; rfl
      · unfold gR; rw [h4 17 (by decide) (by decide), f17]; rfl
  refine sX11_expression_50 rfl ?_
  refine sX11_expression_51 (fun v => absurd v (by decide)) (fun _ => ?_)
  refine sX11_expression_54 rfl ?_
  refine nX11_expression_55 ?_
  refine tX11_expression_57 hS (Nat.le_of_ble_eq_true rfl) ?_
  refine c_isSign11 hS t3 l3'' (by decide) (by decide) (fun v => ?_) (fun v => ?_)
  · refine sX11_expression_60 (fun u => absurd u (by decide)) (fun _ => ?_)
    have n1m : nx C m a < m := tkK_lt (C := C) (by omega)
    have tg2 := tkT_gt (C := C) n1m
    have tl2 := tkT_le hC nl
    refine sX11_expression_63 rfl ?_
    refine tX11_expression_64 hS ?_
    refine sX11_expression_67 rfl ?_
    refine tX11_expression_68 hS ?_
    rw [hz3.2.2.2.2.2.1]
    refine sX11_expression_71 ?_
    refine tX11_expression_72 hS (by decide) (by decide) rfl (show (x :: ys).length < 21 by omega) (Or.inr rfl) ?_
    refine sX11_expression_73 rfl ?_
    refine sX11_expression_74 rfl ?_
    refine tX11_expression_75 hS ?_
    rw [xup2_r (by decide), l3''.2.2.2.1]
    refine tX11_expression_78 hS (Nat.le_of_ble_eq_true rfl) ?_
    have hz4 := Zs_u (r := 18) (i := (x :: ys).length) (v := 1) (by decide) (by decide) hz3
    refine c_lex hS (RT_E (fE_u (by decide) (by decide)) t3) (by omega) (by omega) (fun K5 o5 t5 l5' => ?_)
    rw [show tkT C m (nx C m a) - d + d = tkT C m (nx C m a) by omega] at l5'
    rw [if_pos v] at ih
    refine ih K5 N S V _ _ (Zs_o o5 hz4) l5' (fun u => ?_) hF (fun z hz => by simp only [List.mem_cons, List.not_mem_nil, or_false] at hz; rcases hz with rfl | rfl | rfl <;> exact xlk_mem rfl)
    obtain ⟨s1, s2, s3⟩ := sub u
    obtain ⟨g1, g5⟩ := flg K5 (nx C m (nx C m a)) (fun r b0 b18 => by rw [o5.1 r b0, xup2_r b18, o3.1 r b0]) (by rw [o5.1 18 (by decide), if_pos v, q1, xup2_s]) (gs_c (fun r j c1 c2 c3 => by
      rw [o5.1 r (by omega)]
      by_cases h18 : r = 18
      · subst h18; rw [xup2_n (by omega)]
      · rw [xup2_r h18]) s1)
    exact ⟨g1, by rw [g5]; exact s2, s3⟩
  · refine sX11_expression_60 (fun _ => ?_) (fun u => absurd rfl u)
    rw [if_neg v] at ih
    refine ih K3 N S V _ _ hz3 l3'' (fun u => ?_) hF (fun z hz => by simp only [List.mem_cons, List.not_mem_nil, or_false] at hz; rcases hz with rfl | rfl | rfl <;> exact xlk_mem rfl)
    obtain ⟨s1, s2, s3⟩ := sub u
    obtain ⟨g1, g5⟩ := flg K3 (nx C m a) (fun r b0 _ => o3.1 r b0) (by rw [o3.1 18 (by decide), if_neg v]; exact f18) s1
    exact ⟨g1, by rw [g5]; exact s2, s3⟩
theorem x_number {a e : Nat} {x : Lv} {ys : List Lv} {L : List St} {o : Bool} (hS : RS h b) (hT : RT K0 C m d n lo) (h27 : K0 0 27 = if rc = true then 1 else 0) (hB : K0 0 0 = nI B) (hB0 : 16 ≤ B) (hB2 : B ≤ 512) (h3 : tkK C m a = 3) (hyl : ys.length ≤ 20) (hok : rc = true → tkK C m (nx C m a) = 124 → tkK C m (nx C m (nx C m a)) = 3) (hrej : rc = false → tkK C m (nx C m a) = 124 → tkK C m (nx C m (nx C m a)) ≠ 3 → o = false ∧ e = nx C m (nx C m a)) (ih : (tkK C m (nx C m a) = 124 → tkK C m (nx C m (nx C m a)) = 3) → X1 g l h b Q C m d n lo B c E mg rc K0 N0 S0 (tkF C m (opE C m a)) x ys L o e) : X0 g l h b Q C m d n lo B c E mg rc K0 N0 S0 a x ys (opA C m a ++ L) o e := by
  intro K N S V y lv0 hz hL hr hF hlv
  have hC := hT.1
  have hm := hC.1
  have hnd : n + d = m := hT.2.1
  refine x_head hS hyl hz hL (fun v => (hr v).1) hlv (fun K1 hz1 hL1 hr1 => ?_)
  refine x_flat hS hT (Or.inl (by omega)) hyl hz1 hL1 ?_
  obtain ⟨z1, z2, z3, z4, z5, z6, z7⟩ := id hz1
  have hT1 := RT_E z1 hT
  refine sX11_expression_138 rfl ?_
  refine tX11_expression_139 hS ?_
  rw [hL1.2.2.2.2, if_pos (by omega), h3]
  refine nX11_expression_142 ?_
  refine nX11_expression_143 (by decide) (by decide) (fun v => absurd rfl v) (fun _ => ?_)
  refine sX11_expression_146 rfl ?_
  refine tX11_expression_147 hS (Nat.le_of_ble_eq_true rfl) ?_
  have ham : a < m := tkK_lt (C := C) (by omega)
  have hb' := hL1.1
  have oE : a ≤ opE C m a ∧ opE C m a ≤ m := by
    have tg := tkT_gt (C := C) ham
    have ng := nx_gt (C := C) ham
    have nl : nx C m a ≤ m := nx_le hC (Nat.le_of_lt ham)
    unfold opE
    split
    · have g2 := nx_ge C m (nx C m a)
      have g3 := tkT_ge C m (nx C m a)
      have g4 := tkT_ge C m (nx C m (nx C m a))
      exact ⟨by omega, tkT_le hC (nx_le hC nl)⟩
    · exact ⟨by omega, tkT_le hC (Nat.le_of_lt ham)⟩
  refine c_readNumber11 (mg := mg) (E := E) hS z3 hT1 hL1 h3 (by rw [z1.2 27 (by decide)]; exact h27) z4 (by rw [z1.2 0 (by decide)]; exact hB) hB0 hB2 hok (fun K2 N2 S2 o2 s2 x2 t2 w2 y2 hcl hv hv' => ?_) (fun K2 N2 S2 f p ret hrc o2 s2 x2 f0 f1 w2 v2 y2 hv => ?_) (fun K2 ret hrc c1 c2 o2 x2 t2 w2 v2 y2 => ?_)
  · refine sX11_expression_150 ?_
    refine sX11_expression_151 ?_
    refine sX11_expression_193 ?_
    refine sX11_expression_194 ?_
    refine ih hcl K2 N2 S2 (S2 63 :: V) (opE C m a - d) _ ⟨fE_t z1 (fE_R o2), gS_t z2 (gS_f s2), x2, w2, by rw [y2]; exact z5, by rw [o2.2 32 (by decide)]; exact z6, fun v => ?_⟩ (by rw [show opE C m a - d + d = opE C m a by omega]) (by omega) (by omega) (fun v => ?_) ?_ (fun z hz => by simp only [List.mem_cons, List.not_mem_nil, or_false] at hz; rcases hz with rfl | rfl | rfl | rfl | rfl <;> exact xlk_mem rfl)
    · obtain ⟨u1, u2⟩ := hv' v
      obtain ⟨u3, u4⟩ := z7 v
      exact ⟨u1.trans u3, u2.trans u4⟩
    · obtain ⟨-, g6, g7⟩ := hr v
      refine ⟨FF_c (fun r c1 c2 => o2.1 r (by omega) (by omega) (by omega) (by omega)) (hr1 v), by rw [VV_c (fun w hw => s2 w (by omega) (by omega)) hyl, g6], fun u hu => ?_⟩
      rcases List.mem_cons.mp hu with w | w
      · rw [w]; exact (hv v).1
      · exact g7 u w
    · cases rc with
      | false => exact FX_f hF
      | true => rw [(hv rfl).2] at hF; exact hF
  · refine sX11_expression_150 ?_
    refine sX11_expression_151 ?_
    refine sX11_expression_193 ?_
    refine sX11_expression_194 ?_
    rw [hv] at hF
    refine x_doom hS (by rw [w2]; intro w; exact f0 ((n_eq0 (by omega)).mp w)) (fun z hz => by simp only [List.mem_cons, List.not_mem_nil, or_false] at hz; rcases hz with rfl | rfl | rfl | rfl <;> exact xlk_mem rfl) ?_
    exact hF.2.2.2.1 hrc K2 N2 S2 _ f p (fE_t z1 (fE_R o2)) (gS_t z2 (gS_f s2)) x2 rfl f0 f1 w2 v2 (by rw [y2]; exact z5)
  · obtain ⟨u1, u2⟩ := z7 hrc
    subst u1; subst u2
    obtain ⟨r1', r2'⟩ := hrej hrc c1 c2
    subst r2'
    refine sX11_expression_150 ?_
    refine sX11_expression_151 ?_
    refine sX11_expression_193 ?_
    refine sX11_expression_194 ?_
    refine x_doom hS (by rw [w2]; decide) (fun z hz => by simp only [List.mem_cons, List.not_mem_nil, or_false] at hz; rcases hz with rfl | rfl | rfl | rfl <;> exact xlk_mem rfl) ?_
    exact hF.2.1 hrc r1' K2 _ (fE_t z1 (fE_R o2)) x2 w2 v2
variable {so ln : Nat → Nat} {nm : Nat → Nat → Nat}
theorem x_name {a e : Nat} {x : Lv} {ys : List Lv} {L : List St} {o : Bool} (hS : RS h b) (hT : RT K0 C m d n lo) (h27 : K0 0 27 = if rc = true then 1 else 0) (hB : K0 0 0 = nI B) (hB2 : B ≤ 512) (hZ : rc = true → ZE K0 S0 so ln nm c E) (h2 : tkK C m a = 2) (hyl : ys.length ≤ 20) (ih : X1 g l h b Q C m d n lo B c E (mng so ln nm c C) rc K0 N0 S0 (nx C m a) x ys L o e) : X0 g l h b Q C m d n lo B c E (mng so ln nm c C) rc K0 N0 S0 a x ys ((2, a, tlen C m a) :: L) o e := by
  intro K N S V y lv0 hz hL hr hF hlv
  have hC := hT.1
  have hm := hC.1
  have hnd : n + d = m := hT.2.1
  refine x_head hS hyl hz hL (fun v => (hr v).1) hlv (fun K1 hz1 hL1 hr1 => ?_)
  refine x_flat hS hT (Or.inl (by omega)) hyl hz1 hL1 ?_
  obtain ⟨z1, z2, z3, z4, z5, z6, z7⟩ := id hz1
  have hT1 := RT_E z1 hT
  have ham : a < m := tkK_lt (C := C) (by omega)
  have tg := tkT_gt (C := C) ham
  have tl := tkT_le hC (Nat.le_of_lt ham)
  have hb' := hL1.1
  refine sX11_expression_138 rfl ?_
  refine tX11_expression_139 hS ?_
  rw [hL1.2.2.2.2, if_pos (by omega), h2]
  refine nX11_expression_142 ?_
  refine nX11_expression_143 (by decide) (by decide) (fun _ => ?_) (fun v => absurd v (by decide))
  refine sX11_expression_154 rfl ?_
  refine tX11_expression_155 hS ?_
  rw [hL1.2.2.2.2, if_pos (by omega), h2]
  refine nX11_expression_158 ?_
  refine nX11_expression_159 (by decide) (by decide) (fun v => absurd rfl v) (fun _ => ?_)
  refine sX11_expression_162 rfl ?_
  refine tX11_expression_163 hS ?_
  rw [hL1.2.2.2.1]
  refine sX11_expression_166 ?_
  refine sX11_expression_167 rfl ?_
  refine tX11_expression_168 hS ?_
  rw [z1.2 27 (by decide), h27]
  have et : tkF C m (tkT C m a - d + d) = nx C m a := by rw [show tkT C m a - d + d = tkT C m a by omega]; rfl
  cases rc with
  | false =>
    rw [if_neg (by decide)]
    refine sX11_expression_171 (fun _ => ?_) (fun v => absurd rfl v)
    refine sX11_expression_193 ?_
    refine sX11_expression_194 ?_
    exact ih K1 N S V (tkT C m a - d) _ hz1 et (by omega) (by omega) (fun v => by cases v) (FX_f hF) (fun z hz => by simp only [List.mem_cons, List.not_mem_nil, or_false] at hz; rcases hz with rfl | rfl | rfl | rfl | rfl <;> exact xlk_mem rfl)
  | true =>
    rw [if_pos rfl]
    refine sX11_expression_171 (fun v => absurd v (by decide)) (fun _ => ?_)
    obtain ⟨e1, e2, e3, e4, e5⟩ := hZ rfl
    obtain ⟨-, g6, g7⟩ := hr rfl
    refine sX11_expression_174 rfl ?_
    refine tX11_expression_175 hS (Nat.le_of_ble_eq_true rfl) ?_
    refine c_readName (E := E) hS z3 hT1 hL1 h2 z4 z5 (by rw [z1.2 0 (by decide)]; exact hB) hB2 (by rw [z1.2 28 (by decide)]; exact e1) e2 (RM_E z1 e3) (RE_E z1 z2 e4) e5 (fun K2 N2 v o2 x2 w2 y2 wv2 hv => ?_) (fun K2 N2 v f o2 x2 f0 f1 w2 v2 y2 hv => ?_) (fun K2 j o2 x2 hj w2 y2 hE hv => ?_)
    · refine sX11_expression_178 ?_
      refine sX11_expression_193 ?_
      refine sX11_expression_194 ?_
      rw [hv] at hF
      refine ih K2 N2 _ (v :: V) (tkT C m a - d) _ ⟨fE_t z1 (fE_R o2), gS_t z2 (gS_up (by decide)), x2, w2, y2, by rw [o2.2 32 (by decide)]; exact z6, fun v => by cases v⟩ et (by omega) (by omega) (fun _ => ⟨FF_c (fun r c1 c2 => o2.1 r (by omega) (by omega) (by omega) (by omega)) (hr1 rfl), by rw [VV_c (S := S) (fun w hw => vup_n (by omega)) hyl, g6, vup_s], fun u hu => ?_⟩) hF (fun z hz => by simp only [List.mem_cons, List.not_mem_nil, or_false] at hz; rcases hz with rfl | rfl | rfl | rfl | rfl <;> exact xlk_mem rfl)
      rcases List.mem_cons.mp hu with w | w
      · rw [w]; exact wv2
      · exact g7 u w
    · refine sX11_expression_178 ?_
      refine sX11_expression_193 ?_
      refine sX11_expression_194 ?_
      rw [hv] at hF
      refine x_doom hS (by rw [w2]; intro w; exact f0 ((n_eq0 (by omega)).mp w)) (fun z hz => by simp only [List.mem_cons, List.not_mem_nil, or_false] at hz; rcases hz with rfl | rfl | rfl | rfl <;> exact xlk_mem rfl) ?_
      exact hF.2.2.2.1 rfl K2 N2 _ _ f a (fE_t z1 (fE_R o2)) (gS_t z2 (gS_up (by decide))) x2 rfl f0 f1 w2 v2 y2
    · refine sX11_expression_178 ?_
      refine sX11_expression_193 ?_
      refine sX11_expression_194 ?_
      refine sX11_expression_196 rfl ?_
      refine sX11_expression_198 (fun v => absurd v (by decide)) (fun _ => ?_)
      refine sX11_expression_201 rfl ?_
      refine tX11_expression_202 hS ?_
      rw [w2]
      refine nX11_expression_205 (by decide) (fun v => absurd rfl v) (fun _ => ?_)
      refine sX11_expression_208 rfl ?_
      refine tX11_expression_209 hS ?_
      rw [y2]
      refine nX11_expression_212 (by omega) ?_
      refine sX11_expression_498 ?_
      refine sX11_expression_26 rfl ?_
      refine sX11_expression_28 (fun v => absurd v (by decide)) (fun _ => ?_)
      refine sX11_expression_31 rfl ?_
      refine tX11_expression_32 hS ?_
      rw [w2]
      refine nX11_expression_35 (by decide) (fun v => absurd rfl v) (fun _ => ?_)
      refine sX11_expression_38 rfl ?_
      refine tX11_expression_39 hS ?_
      rw [y2]
      refine nX11_expression_42 (by omega) ?_
      refine sX11_expression_501 rfl ?_
      rw [hv] at hF
      exact sX11_expression_502 (hF.2.2.2.2 rfl K2 N S _ j (fE_t z1 (fE_R o2)) z2 x2 rfl hj w2 y2 hE)
end RefExpr4
