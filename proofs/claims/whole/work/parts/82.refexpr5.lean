section RefExpr5
variable {g : xG} {l : Launch} {h : xH} {b : Nat} {Q : Option Value → xH → Prop} {C : Nat → Nat} {m d n lo B c : Nat} {E : Nat → Option (Nat × Vl)} {mg : Nat → Nat → Option Nat × Option Nat} {rc : Bool} {K0 : Nat → Nat → Int32} {N0 : Nat → Nat} {S0 : Nat → Vl}
theorem x_noraise {a e : Nat} {x : Lv} {ys : List Lv} {L : List St} {o : Bool} (hS : RS h b) (hT : RT K0 C m d n lo) (h94 : tkK C m a ≠ 94) (ih : X2 g l h b Q C m d n lo B c E mg rc K0 N0 S0 a x ys L o e) : X1 g l h b Q C m d n lo B c E mg rc K0 N0 S0 a x ys L o e := by
  intro K N S V p lv0 hz hpa hpn hlo hr hF hlv
  refine aw_lv hlv ?_
  obtain ⟨z1, z2, z3, z4, z5, z6, z7⟩ := id hz
  refine sX11_expression_196 rfl ?_
  refine sX11_expression_198 (fun v => absurd v (by decide)) (fun _ => ?_)
  refine sX11_expression_201 rfl ?_
  refine tX11_expression_202 hS ?_
  rw [z4]
  refine nX11_expression_205 (by decide) (fun v => absurd rfl v) (fun _ => ?_)
  refine sX11_expression_208 rfl ?_
  refine tX11_expression_209 hS ?_
  rw [z5]
  refine sX11_expression_212 (fun v => absurd v (by decide)) (fun _ => ?_)
  refine sX11_expression_215 rfl ?_
  refine sX11_expression_216 rfl ?_
  refine tX11_expression_217 hS (Nat.le_of_ble_eq_true rfl) ?_
  refine c_lex hS (RT_E z1 hT) hpn hlo (fun K1 o1 t1 l1 => ?_)
  rw [hpa] at l1
  have hz1 := Zs_o o1 hz
  refine sX11_expression_220 rfl ?_
  refine nX11_expression_221 ?_
  refine tX11_expression_223 hS (Nat.le_of_ble_eq_true rfl) ?_
  refine c_isSign11 hS t1 l1 (by decide) (by decide) (fun v => absurd v h94) (fun _ => ?_)
  refine sX11_expression_226 (fun _ => ?_) (fun v => absurd rfl v)
  refine sX11_expression_234 rfl ?_
  refine tX11_expression_235 hS ?_
  rw [hz1.2.2.2.1]
  refine nX11_expression_238 (by decide) (fun _ => ?_) (fun v => absurd rfl v)
  refine sX11_expression_243 rfl ?_
  refine sX11_expression_244 rfl ?_
  refine tX11_expression_245 hS (Nat.le_of_ble_eq_true rfl) ?_
  refine c_lex hS t1 hpn hlo (fun K2 o2 t2 l2 => ?_)
  rw [hpa] at l2
  have o12 := ro_t o1 o2
  refine ih K2 N S V p _ (Zs_o o2 hz1) l2 hpa hpn hlo (fun v => ?_) hF (fun z hz => by simp only [List.mem_cons, List.not_mem_nil, or_false] at hz; rcases hz with rfl | rfl | rfl | rfl <;> exact xlk_mem rfl)
  obtain ⟨g1, g2, g3⟩ := hr v
  exact ⟨FF_c (fun r c1 _ => o12.1 r (by omega)) g1, g2, g3⟩
theorem x_raise {a e : Nat} {x : Lv} {ys : List Lv} {L : List St} {o : Bool} (hS : RS h b) (hT : RT K0 C m d n lo) (h27 : K0 0 27 = if rc = true then 1 else 0) (hB : K0 0 0 = nI B) (hB0 : 16 ≤ B) (hB2 : B ≤ 512) (hyl : ys.length ≤ 20) (h94 : tkK C m a = 94) (hok : rc = true → pg C m a) (hrej : rc = false → ¬ pg C m a → o = false ∧ e = pw C m a) (ih : pg C m a → X2 g l h b Q C m d n lo B c E mg rc K0 N0 S0 (nx C m (pw C m a)) x ys L o e) : X1 g l h b Q C m d n lo B c E mg rc K0 N0 S0 a x ys ((17, a, pv C m a) :: L) o e := by
  intro K N S V p lv0 hz hpa hpn hlo hr hF hlv
  refine aw_lv hlv ?_
  have hC := hT.1
  have hnd : n + d = m := hT.2.1
  obtain ⟨z1, z2, z3, z4, z5, z6, z7⟩ := id hz
  have ham : a < m := tkK_lt (C := C) (by omega)
  have ng := nx_gt (C := C) ham
  have nl : nx C m a ≤ m := nx_le hC (Nat.le_of_lt ham)
  have pwm : a < pw C m a ∧ pw C m a ≤ m := by
    unfold pw
    split
    · have h1 : nx C m a < m := tkK_lt (C := C) (by omega)
      have h2 := nx_gt (C := C) h1
      exact ⟨by omega, nx_le hC nl⟩
    · exact ⟨ng, nl⟩
  have tgp := tkT_ge C m (pw C m a)
  have tlp := tkT_le hC pwm.2
  refine sX11_expression_196 rfl ?_
  refine sX11_expression_198 (fun v => absurd v (by decide)) (fun _ => ?_)
  refine sX11_expression_201 rfl ?_
  refine tX11_expression_202 hS ?_
  rw [z4]
  refine nX11_expression_205 (by decide) (fun v => absurd rfl v) (fun _ => ?_)
  refine sX11_expression_208 rfl ?_
  refine tX11_expression_209 hS ?_
  rw [z5]
  refine sX11_expression_212 (fun v => absurd v (by decide)) (fun _ => ?_)
  refine sX11_expression_215 rfl ?_
  refine sX11_expression_216 rfl ?_
  refine tX11_expression_217 hS (Nat.le_of_ble_eq_true rfl) ?_
  refine c_lex hS (RT_E z1 hT) hpn hlo (fun K1 o1 t1 l1 => ?_)
  rw [hpa] at l1
  have hz1 := Zs_o o1 hz
  obtain ⟨y1, y2, y3, y4, y5, y6, y7⟩ := id hz1
  have hb' := l1.1
  refine sX11_expression_220 rfl ?_
  refine nX11_expression_221 ?_
  refine tX11_expression_223 hS (Nat.le_of_ble_eq_true rfl) ?_
  refine c_isSign11 hS t1 l1 (by decide) (by decide) (fun _ => ?_) (fun v => absurd h94 v)
  refine sX11_expression_226 (fun v => absurd v (by decide)) (fun _ => ?_)
  refine sX11_expression_229 rfl ?_
  refine tX11_expression_230 hS (Nat.le_of_ble_eq_true rfl) ?_
  refine c_readRaise (mg := mg) (E := E) (rc := rc) hS y3 t1 l1 h94 (by rw [y1.2 27 (by decide)]; exact h27) y4 (by rw [y1.2 0 (by decide)]; exact hB) hB0 hB2 (fun v => ?_) hok (fun K2 N2 S2 o2 s2 x2 t2 w2 v2 hg hv hv' => ?_) (fun K2 N2 S2 f q ret hrc o2 s2 x2 f0 f1 w2 u2 v2 hv => ?_) (fun K2 ret hrc hg o2 x2 t2 w2 u2 v2 => ?_)
  · obtain ⟨-, g2, g3⟩ := hr v
    exact g3 _ (by rw [g2]; exact List.mem_cons_self)
  · refine sX11_expression_233 ?_
    refine sX11_expression_234 rfl ?_
    refine tX11_expression_235 hS ?_
    rw [w2]
    refine nX11_expression_238 (by decide) (fun _ => ?_) (fun v => absurd rfl v)
    refine sX11_expression_243 rfl ?_
    refine sX11_expression_244 rfl ?_
    refine tX11_expression_245 hS (Nat.le_of_ble_eq_true rfl) ?_
    refine c_lex hS t2 (by omega) (by omega) (fun K3 o3 t3 l3 => ?_)
    have ee : tkF C m (tkT C m (pw C m a) - d + d) = nx C m (pw C m a) := by rw [show tkT C m (pw C m a) - d + d = tkT C m (pw C m a) by omega]; rfl
    rw [ee] at l3
    refine ih hg K3 N2 S2 (S2 63 :: VV S2 x ys) (tkT C m (pw C m a) - d) _ (Zs_o o3 ⟨fE_t y1 (fE_R o2), gS_t y2 (gS_f s2), x2, w2, by rw [v2]; exact y5, by rw [o2.2 32 (by decide)]; exact y6, fun v => ?_⟩) l3 ee (by omega) (by omega) (fun v => ?_) ?_ (fun z hz => by simp only [List.mem_cons, List.not_mem_nil, or_false] at hz; rcases hz with rfl | rfl | rfl | rfl <;> exact xlk_mem rfl)
    · obtain ⟨u1, u2⟩ := hv' v
      obtain ⟨u3, u4⟩ := y7 v
      exact ⟨u1.trans u3, u2.trans u4⟩
    · obtain ⟨g1, g2, g3⟩ := hr v
      refine ⟨FF_c (fun r c1 c2 => ?_) g1, rfl, fun u hu => ?_⟩
      · rw [o3.1 r (by omega), o2.1 r (by omega) (by omega) (by omega) (by omega), o1.1 r (by omega)]
      · rcases List.mem_cons.mp hu with w | w
        · rw [w]; exact (hv v).1
        · rw [VV_c (S := S) (fun w hw => s2 w (by omega) (by omega)) hyl] at w
          exact g3 u (by rw [g2]; exact List.mem_cons_of_mem _ w)
    · cases rc with
      | false => exact FX_f hF
      | true =>
        obtain ⟨g1, g2, g3⟩ := hr rfl
        rw [g2, (hv rfl).2] at hF
        rw [VV_c (S := S) (fun w hw => s2 w (by omega) (by omega)) hyl]
        exact hF
  · have hF' := hF
    rw [(hr hrc).2.1, hv] at hF'
    refine sX11_expression_233 ?_
    refine sX11_expression_234 rfl ?_
    refine tX11_expression_235 hS ?_
    rw [w2]
    refine nX11_expression_238 (by omega) (fun v => absurd v f0) (fun _ => ?_)
    refine sX11_expression_241 rfl ?_
    exact sX11_expression_242 (hF'.2.2.2.1 hrc K2 N2 S2 _ f q (fE_t y1 (fE_R o2)) (gS_t y2 (gS_f s2)) x2 rfl f0 f1 w2 u2 (by rw [v2]; exact y5))
  · obtain ⟨u3, u4⟩ := y7 hrc
    subst u3; subst u4
    obtain ⟨q1, q2⟩ := hrej hrc hg
    subst q2
    refine sX11_expression_233 ?_
    refine sX11_expression_234 rfl ?_
    refine tX11_expression_235 hS ?_
    rw [w2]
    refine nX11_expression_238 (by decide) (fun v => absurd v (by decide)) (fun _ => ?_)
    refine sX11_expression_241 rfl ?_
    exact sX11_expression_242 (hF.2.1 hrc q1 K2 _ (fE_t y1 (fE_R o2)) x2 w2 u2)
/-- no POWER begins here -/
theorem x_264 {K : Nat → Nat → Int32} {a : Nat} {y : Int32} {lv0 : List (Nat × Value)} (hS : RS h b) (hT : RT K C m d n lo) (hL : RLx K C m d lo a) (h2 : tkK C m a ≠ 2) (h3 : tkK C m a ≠ 3) (h40 : tkK C m a ≠ 40) (hlv : ∀ z ∈ ([(0, .ref b), (2, .int y), (3, .int 0), (4, .int 1), (5, .int 0)] : List (Nat × Value)), z ∈ lv0) (k : aw g l mX11_expression 292 [(0, .ref b), (2, .int y), (3, .int 0), (4, .int 1), (5, .int 0)] [] (xB h b K) Q) : aw g l mX11_expression 264 lv0 [] (xB h b K) Q := by
  refine aw_lv hlv ?_
  have kb := tkK_big C m a
  refine sX11_expression_264 rfl ?_
  refine tX11_expression_265 hS ?_
  rw [hL.2.2.2.2]
  refine nX11_expression_268 ?_
  refine nX11_expression_269 (by split <;> omega) (by decide) (fun v => by split at v <;> omega) (fun _ => ?_)
  refine sX11_expression_272 rfl ?_
  refine tX11_expression_273 hS ?_
  rw [hL.2.2.2.2]
  refine nX11_expression_276 ?_
  refine nX11_expression_277 (by split <;> omega) (by decide) (fun v => by split at v <;> omega) (fun _ => ?_)
  refine sX11_expression_280 rfl ?_
  refine nX11_expression_281 ?_
  refine tX11_expression_283 hS (Nat.le_of_ble_eq_true rfl) ?_
  refine c_isSign11 hS hT hL (by decide) (by decide) (fun v => absurd v h40) (fun _ => ?_)
  exact sX11_expression_286 (fun _ => k) (fun v => absurd rfl v)
/-- a row goes on -/
theorem x_row {a e : Nat} {x : Lv} {ys : List Lv} {L : List St} {o : Bool} (hS : RS h b) (hT : RT K0 C m d n lo) (h27 : K0 0 27 = if rc = true then 1 else 0) (hB : K0 0 0 = nI B) (hB2 : B ≤ 512) (hyl : ys.length ≤ 20) (hx : wl x) (hk : tkK C m a = 2 ∨ tkK C m a = 3 ∨ tkK C m a = 40) (ih : X0 g l h b Q C m d n lo B c E mg rc K0 N0 S0 a (x.1, x.2.1, (16, a)) ys L o e) : X2 g l h b Q C m d n lo B c E mg rc K0 N0 S0 a x ys (r4 x ++ L) o e := by
  intro K N S V p lv0 hz hL hpa hpn hlo hr hF hlv
  refine x_A (a := a) (x := x) (ys := ys) (L := L) hS h27 hB hB2 hyl hx hz hL (fun v => ?_) hF hlv (fun K1 N1 S1 V1 lv1 hz1 hL1 hr1 hF1 hlv1 => ?_)
  · obtain ⟨⟨g1, g2, g3, g4, g5⟩, g6, g7⟩ := hr v; exact ⟨g1, g2, g3, g4, g5, g6, g7⟩
  refine aw_lv hlv1 ?_
  have hT1 := RT_E hz1.1 hT
  have go : aw g l mX11_expression 196 [(0, .ref b), (2, .int (nI p)), (3, .int 0), (4, .int 1), (5, .int 0)] [] (xB h b K1) Q := by
    refine x_back hS hT hz1 hpn hlo (fun z hz => by simp only [List.mem_cons, List.not_mem_nil, or_false] at hz; rcases hz with rfl | rfl | rfl | rfl | rfl <;> exact xlk_mem rfl) (fun K2 lv2 o2 l2 hlv2 => ?_)
    rw [hpa] at l2
    refine ih K2 N1 S1 V1 _ lv2 (Zs_o o2 hz1) l2 (fun v => ?_) hF1 hlv2
    obtain ⟨a1, a2, a3, a4, a5, a6⟩ := hr1 v
    have or : ∀ r, 15 ≤ r → K2 r = K1 r := fun r c1 => o2.1 r (by omega)
    refine ⟨⟨gT_c (by rw [or 16 (by decide)]) (by rw [or 21 (by decide)]) (by rw [or 22 (by decide)]) a1, gM_c (by rw [or 15 (by decide)]) (by rw [or 18 (by decide)]) (by rw [or 19 (by decide)]) (by rw [or 20 (by decide)]) a2, ?_, fun _ => rfl, gs_c (fun r j c1 _ _ => by rw [or r c1]) a4⟩, a5, a6⟩
    unfold gR; rw [or 17 (by decide), a3]; rfl
  have kb := tkK_big C m a
  refine sX11_expression_264 rfl ?_
  refine tX11_expression_265 hS ?_
  rw [hL1.2.2.2.2]
  refine nX11_expression_268 ?_
  refine nX11_expression_269 (by split <;> omega) (by decide) (fun _ => go) (fun z3 => ?_)
  refine sX11_expression_272 rfl ?_
  refine tX11_expression_273 hS ?_
  rw [hL1.2.2.2.2]
  refine nX11_expression_276 ?_
  refine nX11_expression_277 (by split <;> omega) (by decide) (fun _ => go) (fun z2 => ?_)
  refine sX11_expression_280 rfl ?_
  refine nX11_expression_281 ?_
  refine tX11_expression_283 hS (Nat.le_of_ble_eq_true rfl) ?_
  refine c_isSign11 hS hT1 hL1 (by decide) (by decide) (fun v => ?_) (fun v => ?_)
  · refine sX11_expression_286 (fun u => absurd u (by decide)) (fun _ => ?_)
    refine sX11_expression_289 ?_
    exact go
  · exfalso
    rcases hk with u | u | u
    · rw [u] at z2; exact z2 rfl
    · rw [u] at z3; exact z3 rfl
    · exact v u
/-- a product goes on -/
theorem x_term {a e s : Nat} {x : Lv} {ys : List Lv} {L : List St} {o : Bool} (hS : RS h b) (hT : RT K0 C m d n lo) (h27 : K0 0 27 = if rc = true then 1 else 0) (hB : K0 0 0 = nI B) (hB2 : B ≤ 512) (hyl : ys.length ≤ 20) (hx : wl x) (hk : tkK C m a = 42 ∧ s = 14 ∨ tkK C m a = 47 ∧ s = 15) (ih : X0 g l h b Q C m d n lo B c E mg rc K0 N0 S0 (nx C m a) (x.1, (s, a), (0, 0)) ys L o e) : X2 g l h b Q C m d n lo B c E mg rc K0 N0 S0 a x ys (r3 x ++ L) o e := by
  intro K N S V p lv0 hz hL hpa hpn hlo hr hF hlv
  have hC := hT.1
  have hm := hC.1
  have hnd : n + d = m := hT.2.1
  have ham : a < m := tkK_lt (C := C) (by omega)
  have tg := tkT_gt (C := C) ham
  have tl := tkT_le hC (Nat.le_of_lt ham)
  have kb := tkK_big C m a
  have eC : C a = tkK C m a := by rcases kb.2 with v | v; omega; exact v.1.symm
  have e3 : r3 x ++ L = em x.2.2 ++ (em x.2.1 ++ L) := List.append_assoc ..
  rw [e3] at hF
  refine x_A (a := a) (x := x) (ys := ys) hS h27 hB hB2 hyl hx hz hL (fun v => ?_) hF hlv (fun K1 N1 S1 V1 lv1 hz1 hL1 hr1 hF1 hlv1 => ?_)
  · obtain ⟨⟨g1, g2, g3, g4, g5⟩, g6, g7⟩ := hr v; exact ⟨g1, g2, g3, g4, g5, g6, g7⟩
  refine x_264 hS (RT_E hz1.1 hT) hL1 (by omega) (by omega) (by omega) hlv1 ?_
  refine x_B (x := x) (ys := ys) hS hT h27 hB hB2 hyl hx hz1 hL1 hr1 hF1 (fun z hz => by simp only [List.mem_cons, List.not_mem_nil, or_false] at hz; rcases hz with rfl | rfl | rfl | rfl | rfl <;> exact xlk_mem rfl) (fun K2 N2 S2 V2 lv2 hz2 hL2 hr2 hF2 hlv2 => ?_)
  refine aw_lv hlv2 ?_
  have hT2 := RT_E hz2.1 hT
  have go : aw g l mX11_expression 314 [(0, .ref b), (2, .int (nI p)), (3, .int 0), (4, .int 1), (5, .int 0)] [] (xB h b K2) Q := by
    have h32 := hz2.2.2.2.2.2.1
    have hb' := hL2.1
    refine sX11_expression_314 rfl ?_
    refine tX11_expression_315 hS ?_
    refine sX11_expression_318 rfl ?_
    refine tX11_expression_319 hS ?_
    rw [h32]
    refine sX11_expression_322 rfl ?_
    refine sX11_expression_323 rfl ?_
    refine tX11_expression_324 hS ?_
    rw [hL2.2.2.1]
    refine tX11_expression_327 hS (Nat.le_of_ble_eq_true rfl) ?_
    refine c_at hS hT2 (by omega) (by omega) ?_
    rw [show a - d + d = a by omega, eC]
    refine tX11_expression_330 hS (by decide) (by decide) rfl (by simp only [rl]; omega) ?_
    refine sX11_expression_331 rfl ?_
    refine tX11_expression_332 hS ?_
    refine sX11_expression_335 rfl ?_
    refine tX11_expression_336 hS ?_
    rw [xup2_r (by decide), h32]
    refine sX11_expression_339 rfl ?_
    refine tX11_expression_340 hS ?_
    rw [xup2_r (by decide), hL2.2.2.1]
    refine tX11_expression_343 hS (by decide) (by decide) rfl (by simp only [rl]; omega) ?_
    refine sX11_expression_344 rfl ?_
    refine tX11_expression_345 hS ?_
    rw [xup2_r (by decide), xup2_r (by decide), hL2.2.2.2.1]
    refine sX11_expression_348 ?_
    refine sX11_expression_349 ?_
    generalize hK3 : xup2 (xup2 K2 21 ys.length (nI (tkK C m a))) 22 ys.length (nI (a - d)) = K3
    have hz3 : Zs rc K0 N0 S0 K3 N2 S2 ys.length := by rw [← hK3]; exact Zs_u (by decide) (by decide) (Zs_u (by decide) (by decide) hz2)
    refine x_back (p := tkT C m a - d) hS hT hz3 (by omega) (by omega) (fun z hz => by simp only [List.mem_cons, List.not_mem_nil, or_false] at hz; rcases hz with rfl | rfl | rfl | rfl | rfl <;> exact xlk_mem rfl) (fun K4 lv4 o4 l4 hlv4 => ?_)
    rw [show tkT C m a - d + d = tkT C m a by omega] at l4
    refine ih K4 N2 S2 V2 _ lv4 (Zs_o o4 hz3) l4 (fun v => ?_) hF2 hlv4
    obtain ⟨a2, a3, a4, a5, a6, a7⟩ := hr2 v
    have or : ∀ r, r ≠ 0 → r ≠ 21 → r ≠ 22 → K4 r = K2 r := fun r c0 c1 c2 => by rw [o4.1 r c0, ← hK3, xup2_r c2, xup2_r c1]
    have k21 : K4 21 ys.length = nI (tkK C m a) := by rw [o4.1 21 (by decide), ← hK3, xup2_r (by decide), xup2_s]
    have k22 : K4 22 ys.length = nI (a - d) := by rw [o4.1 22 (by decide), ← hK3, xup2_s]
    refine ⟨⟨⟨?_, fun u => ?_, fun u => ?_, fun _ => k22⟩, gM_c (by rw [or 15 (by decide) (by decide) (by decide)]) (by rw [or 18 (by decide) (by decide) (by decide)]) (by rw [or 19 (by decide) (by decide) (by decide)]) (by rw [or 20 (by decide) (by decide) (by decide)]) a2, ?_, fun u => absurd rfl u, gs_c (fun r j c1 c2 c3 => ?_) a5⟩, ?_, a7⟩
    · rw [or 16 (by decide) (by decide) (by decide), a3]
      show (1 : Int32) = if s = 0 then 0 else 1
      rw [if_neg (by omega)]
    · have u' : s = 14 := u
      rw [k21]; rcases hk with w | w; rw [w.1]; omega
    · have u' : s = 15 := u
      rw [k21]; rcases hk with w | w; omega; rw [w.1]
    · unfold gR; rw [or 17 (by decide) (by decide) (by decide), a4]; rfl
    · by_cases c21 : r = 21
      · subst c21; rw [o4.1 21 (by decide), ← hK3, xup2_r (by decide), xup2_n (by omega)]
      by_cases c22 : r = 22
      · subst c22; rw [o4.1 22 (by decide), ← hK3, xup2_n (by omega), xup2_r (by decide)]
      · rw [or r (by omega) c21 c22]
    · rw [a6]
      have : VV S2 (x.1, (s, a), (0, 0)) ys = ([] ++ ((if s = 0 then [] else [S2 (3 * ys.length + 1)]) ++ lS S2 ys.length x)) ++ sts S2 ys := rfl
      rw [this, if_neg (show ¬ s = 0 by omega)]
      rfl
  refine sX11_expression_296 rfl ?_
  refine nX11_expression_297 ?_
  refine tX11_expression_299 hS (Nat.le_of_ble_eq_true rfl) ?_
  refine c_isSign11 hS hT2 hL2 (by decide) (by decide) (fun v => ?_) (fun v => ?_)
  · exact sX11_expression_302 (fun _ => go) (fun y => absurd y (by decide))
  refine sX11_expression_302 (fun y => absurd rfl y) (fun _ => ?_)
  refine sX11_expression_305 rfl ?_
  refine nX11_expression_306 ?_
  refine tX11_expression_308 hS (Nat.le_of_ble_eq_true rfl) ?_
  refine c_isSign11 hS hT2 hL2 (by decide) (by decide) (fun u => ?_) (fun u => absurd (show tkK C m a = 47 by omega) u)
  exact sX11_expression_311 (fun y => absurd y (by decide)) (fun _ => go)
/-- the end of a term, of whatever comes then -/
theorem x_to356 {a e p : Nat} {x : Lv} {ys : List Lv} {L : List St} {o : Bool} {K : Nat → Nat → Int32} {N : Nat → Nat} {S : Nat → Vl} {V : List Vl} {lv0 : List (Nat × Value)} (hS : RS h b) (hT : RT K0 C m d n lo) (h27 : K0 0 27 = if rc = true then 1 else 0) (hB : K0 0 0 = nI B) (hB2 : B ≤ 512) (hyl : ys.length ≤ 20) (hx : wl x) (h2 : tkK C m a ≠ 2) (h3 : tkK C m a ≠ 3) (h40 : tkK C m a ≠ 40) (h42 : tkK C m a ≠ 42) (h47 : tkK C m a ≠ 47) (hz : Zs rc K0 N0 S0 K N S ys.length) (hL : RLx K C m d lo a) (hr : rc = true → FF K d x ys ∧ V = S 63 :: VV S x ys ∧ wv V) (hF : FX h b Q d c E rc K0 N0 S0 (exe B C m E mg (r1 x ++ L) V) o e) (hlv : ∀ z ∈ ([(0, .ref b), (2, .int (nI p)), (3, .int 0), (4, .int 1)] : List (Nat × Value)), z ∈ lv0) (k : ∀ (K1 : Nat → Nat → Int32) (N1 : Nat → Nat) (S1 : Nat → Vl) (V1 : List Vl), Zs rc K0 N0 S0 K1 N1 S1 ys.length → RLx K1 C m d lo a → (rc = true → K1 15 ys.length = 1 ∧ K1 16 ys.length = 0 ∧ K1 17 ys.length = 0 ∧ K1 18 ys.length = 0 ∧ gs K1 d ys ∧ V1 = S1 (3 * ys.length) :: sts S1 ys ∧ wv V1) → FX h b Q d c E rc K0 N0 S0 (exe B C m E mg L V1) o e → aw g l mX11_expression 356 [(0, .ref b), (2, .int (nI p)), (3, .int 0), (4, .int 1), (5, .int 0)] [] (xB h b K1) Q) : aw g l mX11_expression 248 lv0 [] (xB h b K) Q := by
  have e3 : r1 x ++ L = em x.2.2 ++ (em x.2.1 ++ (em x.1 ++ L)) := by unfold r1; rw [List.append_assoc, List.append_assoc]
  rw [e3] at hF
  refine x_A (a := a) (x := x) (ys := ys) hS h27 hB hB2 hyl hx hz hL (fun v => ?_) hF hlv (fun K1 N1 S1 V1 lv1 hz1 hL1 hr1 hF1 hlv1 => ?_)
  · obtain ⟨⟨g1, g2, g3, g4, g5⟩, g6, g7⟩ := hr v; exact ⟨g1, g2, g3, g4, g5, g6, g7⟩
  refine x_264 hS (RT_E hz1.1 hT) hL1 h2 h3 h40 hlv1 ?_
  refine x_B (x := x) (ys := ys) hS hT h27 hB hB2 hyl hx hz1 hL1 hr1 hF1 (fun z hz => by simp only [List.mem_cons, List.not_mem_nil, or_false] at hz; rcases hz with rfl | rfl | rfl | rfl | rfl <;> exact xlk_mem rfl) (fun K2 N2 S2 V2 lv2 hz2 hL2 hr2 hF2 hlv2 => ?_)
  refine aw_lv hlv2 ?_
  have hT2 := RT_E hz2.1 hT
  refine sX11_expression_296 rfl ?_
  refine nX11_expression_297 ?_
  refine tX11_expression_299 hS (Nat.le_of_ble_eq_true rfl) ?_
  refine c_isSign11 hS hT2 hL2 (by decide) (by decide) (fun v => absurd v h42) (fun v => ?_)
  refine sX11_expression_302 (fun y => absurd rfl y) (fun _ => ?_)
  refine sX11_expression_305 rfl ?_
  refine nX11_expression_306 ?_
  refine tX11_expression_308 hS (Nat.le_of_ble_eq_true rfl) ?_
  refine c_isSign11 hS hT2 hL2 (by decide) (by decide) (fun u => absurd u h47) (fun u => ?_)
  refine sX11_expression_311 (fun _ => ?_) (fun y => absurd rfl y)
  refine x_C (x := x) (ys := ys) hS hT h27 hB hB2 hyl hx hz2 hL2 hr2 hF2 (fun z hz => by simp only [List.mem_cons, List.not_mem_nil, or_false] at hz; rcases hz with rfl | rfl | rfl | rfl | rfl <;> exact xlk_mem rfl) (fun K3 N3 S3 V3 lv3 hz3 hL3 hr3 hF3 hlv3 => ?_)
  exact aw_lv hlv3 (k K3 N3 S3 V3 hz3 hL3 hr3 hF3)
theorem x_sum {a e s : Nat} {x : Lv} {ys : List Lv} {L : List St} {o : Bool} (hS : RS h b) (hT : RT K0 C m d n lo) (h27 : K0 0 27 = if rc = true then 1 else 0) (hB : K0 0 0 = nI B) (hB2 : B ≤ 512) (hyl : ys.length ≤ 20) (hx : wl x) (hk : tkK C m a = 43 ∧ s = 11 ∨ tkK C m a = 45 ∧ s = 12) (ih : X0 g l h b Q C m d n lo B c E mg rc K0 N0 S0 (nx C m a) ((s, a), (0, 0), (0, 0)) ys L o e) : X2 g l h b Q C m d n lo B c E mg rc K0 N0 S0 a x ys (r1 x ++ L) o e := by
  intro K N S V p lv0 hz hL hpa hpn hlo hr hF hlv
  have hC := hT.1
  have hm := hC.1
  have hnd : n + d = m := hT.2.1
  have ham : a < m := tkK_lt (C := C) (by omega)
  have tg := tkT_gt (C := C) ham
  have tl := tkT_le hC (Nat.le_of_lt ham)
  have kb := tkK_big C m a
  have eC : C a = tkK C m a := by rcases kb.2 with v | v; omega; exact v.1.symm
  refine x_to356 (a := a) (p := p) hS hT h27 hB hB2 hyl hx (by omega) (by omega) (by omega) (by omega) (by omega) hz hL hr hF hlv (fun K2 N2 S2 V2 hz2 hL2 hr2 hF2 => ?_)
  have hT2 := RT_E hz2.1 hT
  have go : aw g l mX11_expression 374 [(0, .ref b), (2, .int (nI p)), (3, .int 0), (4, .int 1), (5, .int 0)] [] (xB h b K2) Q := by
    have h32 := hz2.2.2.2.2.2.1
    have hb' := hL2.1
    refine sX11_expression_374 rfl ?_
    refine tX11_expression_375 hS ?_
    refine sX11_expression_378 rfl ?_
    refine tX11_expression_379 hS ?_
    rw [h32]
    refine sX11_expression_382 rfl ?_
    refine sX11_expression_383 rfl ?_
    refine tX11_expression_384 hS ?_
    rw [hL2.2.2.1]
    refine tX11_expression_387 hS (Nat.le_of_ble_eq_true rfl) ?_
    refine c_at hS hT2 (by omega) (by omega) ?_
    rw [show a - d + d = a by omega, eC]
    refine tX11_expression_390 hS (by decide) (by decide) rfl (by simp only [rl]; omega) ?_
    refine sX11_expression_391 rfl ?_
    refine tX11_expression_392 hS ?_
    refine sX11_expression_395 rfl ?_
    refine tX11_expression_396 hS ?_
    rw [xup2_r (by decide), h32]
    refine sX11_expression_399 rfl ?_
    refine tX11_expression_400 hS ?_
    rw [xup2_r (by decide), hL2.2.2.1]
    refine tX11_expression_403 hS (by decide) (by decide) rfl (by simp only [rl]; omega) ?_
    refine sX11_expression_404 rfl ?_
    refine tX11_expression_405 hS ?_
    rw [xup2_r (by decide), xup2_r (by decide), hL2.2.2.2.1]
    refine sX11_expression_408 ?_
    refine sX11_expression_409 ?_
    generalize hK3 : xup2 (xup2 K2 19 ys.length (nI (tkK C m a))) 20 ys.length (nI (a - d)) = K3
    have hz3 : Zs rc K0 N0 S0 K3 N2 S2 ys.length := by rw [← hK3]; exact Zs_u (by decide) (by decide) (Zs_u (by decide) (by decide) hz2)
    refine x_back (p := tkT C m a - d) hS hT hz3 (by omega) (by omega) (fun z hz => by simp only [List.mem_cons, List.not_mem_nil, or_false] at hz; rcases hz with rfl | rfl | rfl | rfl | rfl <;> exact xlk_mem rfl) (fun K4 lv4 o4 l4 hlv4 => ?_)
    rw [show tkT C m a - d + d = tkT C m a by omega] at l4
    refine ih K4 N2 S2 V2 _ lv4 (Zs_o o4 hz3) l4 (fun v => ?_) hF2 hlv4
    obtain ⟨a2, a3, a4, a4', a5, a6, a7⟩ := hr2 v
    have or : ∀ r, r ≠ 0 → r ≠ 19 → r ≠ 20 → K4 r = K2 r := fun r c0 c1 c2 => by rw [o4.1 r c0, ← hK3, xup2_r c2, xup2_r c1]
    have k19 : K4 19 ys.length = nI (tkK C m a) := by rw [o4.1 19 (by decide), ← hK3, xup2_r (by decide), xup2_s]
    have k20 : K4 20 ys.length = nI (a - d) := by rw [o4.1 20 (by decide), ← hK3, xup2_s]
    refine ⟨⟨⟨?_, fun u => (by cases u), fun u => (by cases u), fun u => absurd rfl u⟩, ⟨?_, ?_, fun u => ?_, fun u => ?_, fun _ _ => k20⟩, ?_, fun u => absurd rfl u, gs_c (fun r j c1 c2 c3 => ?_) a5⟩, ?_, a7⟩
    · rw [or 16 (by decide) (by decide) (by decide), a3]; rfl
    · rw [or 15 (by decide) (by decide) (by decide), a2]
      show (1 : Int32) = if s = 0 ∨ s = 13 then 0 else 1
      rw [if_neg (by omega)]
    · rw [or 18 (by decide) (by decide) (by decide), a4']
      show (0 : Int32) = if s = 13 then 1 else 0
      rw [if_neg (by omega)]
    · have u' : s = 11 := u
      rw [k19]; rcases hk with w | w; rw [w.1]; omega
    · have u' : s = 12 := u
      rw [k19]; rcases hk with w | w; omega; rw [w.1]
    · unfold gR; rw [or 17 (by decide) (by decide) (by decide), a4]; rfl
    · by_cases c19 : r = 19
      · subst c19; rw [o4.1 19 (by decide), ← hK3, xup2_r (by decide), xup2_n (by omega)]
      by_cases c20 : r = 20
      · subst c20; rw [o4.1 20 (by decide), ← hK3, xup2_n (by omega), xup2_r (by decide)]
      · rw [or r (by omega) c19 c20]
    · rw [a6]
      have : VV S2 ((s, a), (0, 0), (0, 0)) ys = ([] ++ ([] ++ (if s = 0 ∨ s = 13 then [] else [S2 (3 * ys.length)]))) ++ sts S2 ys := rfl
      rw [this, if_neg (show ¬ (s = 0 ∨ s = 13) by omega)]
      rfl
  refine sX11_expression_356 rfl ?_
  refine nX11_expression_357 ?_
  refine tX11_expression_359 hS (Nat.le_of_ble_eq_true rfl) ?_
  refine c_isSign11 hS hT2 hL2 (by decide) (by decide) (fun v => ?_) (fun v => ?_)
  · exact sX11_expression_362 (fun _ => go) (fun y => absurd y (by decide))
  refine sX11_expression_362 (fun y => absurd rfl y) (fun _ => ?_)
  refine sX11_expression_365 rfl ?_
  refine nX11_expression_366 ?_
  refine tX11_expression_368 hS (Nat.le_of_ble_eq_true rfl) ?_
  refine c_isSign11 hS hT2 hL2 (by decide) (by decide) (fun u => ?_) (fun u => absurd (show tkK C m a = 45 by omega) u)
  exact sX11_expression_371 (fun y => absurd y (by decide)) (fun _ => go)
/-- no sum goes on -/
theorem x_412 {K : Nat → Nat → Int32} {a : Nat} {p : Int32} (hS : RS h b) (hT : RT K C m d n lo) (hL : RLx K C m d lo a) (h43 : tkK C m a ≠ 43) (h45 : tkK C m a ≠ 45) (k : aw g l mX11_expression 412 [(0, .ref b), (2, .int p), (3, .int 0), (4, .int 1), (5, .int 0)] [] (xB h b K) Q) : aw g l mX11_expression 356 [(0, .ref b), (2, .int p), (3, .int 0), (4, .int 1), (5, .int 0)] [] (xB h b K) Q := by
  refine sX11_expression_356 rfl ?_
  refine nX11_expression_357 ?_
  refine tX11_expression_359 hS (Nat.le_of_ble_eq_true rfl) ?_
  refine c_isSign11 hS hT hL (by decide) (by decide) (fun v => absurd v h43) (fun v => ?_)
  refine sX11_expression_362 (fun y => absurd rfl y) (fun _ => ?_)
  refine sX11_expression_365 rfl ?_
  refine nX11_expression_366 ?_
  refine tX11_expression_368 hS (Nat.le_of_ble_eq_true rfl) ?_
  refine c_isSign11 hS hT hL (by decide) (by decide) (fun u => absurd u h45) (fun u => ?_)
  exact sX11_expression_371 (fun _ => k) (fun y => absurd rfl y)
theorem x_close {a e : Nat} {x y : Lv} {ys : List Lv} {L : List St} {o : Bool} (hS : RS h b) (hT : RT K0 C m d n lo) (h27 : K0 0 27 = if rc = true then 1 else 0) (hB : K0 0 0 = nI B) (hB2 : B ≤ 512) (hyl : (y :: ys).length ≤ 20) (hx : wl x) (hk : tkK C m a = 41) (ih : X1 g l h b Q C m d n lo B c E mg rc K0 N0 S0 (nx C m a) y ys L o e) : X2 g l h b Q C m d n lo B c E mg rc K0 N0 S0 a x (y :: ys) (r1 x ++ L) o e := by
  intro K N S V p lv0 hz hL hpa hpn hlo hr hF hlv
  have hC := hT.1
  have hnd : n + d = m := hT.2.1
  have ham : a < m := tkK_lt (C := C) (by omega)
  have tg := tkT_gt (C := C) ham
  have tl := tkT_le hC (Nat.le_of_lt ham)
  have q1 : (y :: ys).length = ys.length + 1 := rfl
  refine x_to356 (a := a) (p := p) hS hT h27 hB hB2 hyl hx (by omega) (by omega) (by omega) (by omega) (by omega) hz hL hr hF hlv (fun K2 N2 S2 V2 hz2 hL2 hr2 hF2 => ?_)
  have hT2 := RT_E hz2.1 hT
  obtain ⟨z1, z2, z3, z4, z5, z6, z7⟩ := id hz2
  have hb' := hL2.1
  refine x_412 hS hT2 hL2 (by omega) (by omega) ?_
  refine sX11_expression_412 rfl ?_
  refine tX11_expression_413 hS ?_
  rw [z6]
  refine nX11_expression_416 (show ys.length + 1 < 2 ^ 31 by omega) (fun _ => ?_) (fun v => absurd v (Nat.succ_ne_zero _))
  refine sX11_expression_430 rfl ?_
  refine nX11_expression_431 ?_
  refine tX11_expression_433 hS (Nat.le_of_ble_eq_true rfl) ?_
  refine c_isSign11 hS hT2 hL2 (by decide) (by decide) (fun _ => ?_) (fun v => absurd hk v)
  refine sX11_expression_436 (fun _ => ?_) (fun v => absurd v (by decide))
  have go : ∀ (K3 : Nat → Nat → Int32) (N3 : Nat → Nat) (S3 : Nat → Vl) (V3 : List Vl), Zs rc K0 N0 S0 K3 N3 S3 (y :: ys).length → K3 0 24 = nI (tkT C m a - d) → (rc = true → FF K3 d y ys ∧ V3 = S3 63 :: VV S3 y ys ∧ wv V3) → FX h b Q d c E rc K0 N0 S0 (exe B C m E mg L V3) o e → aw g l mX11_expression 477 [(0, .ref b), (2, .int (nI p)), (3, .int 0), (4, .int 1), (5, .int 0)] [] (xB h b K3) Q := by
    intro K3 N3 S3 V3 hz3 e24 hr3 hF3
    obtain ⟨y1, y2, y3, y4, y5, y6, y7⟩ := id hz3
    refine sX11_expression_477 rfl ?_
    refine sX11_expression_478 rfl ?_
    refine tX11_expression_479 hS ?_
    rw [y6]
    refine nX11_expression_482 ?_
    refine nX11_expression_483 (show 1 ≤ ys.length + 1 by omega) ?_
    rw [show (y :: ys).length - 1 = ys.length from rfl]
    refine tX11_expression_484 hS ?_
    refine sX11_expression_487 rfl ?_
    refine tX11_expression_488 hS ?_
    rw [xup2_n (by decide), e24]
    refine sX11_expression_491 ?_
    refine sX11_expression_492 ?_
    refine sX11_expression_493 ?_
    refine sX11_expression_495 ?_
    refine ih _ N3 S3 V3 (tkT C m a - d) _ ⟨fE_t y1 ⟨fun r b0 _ _ _ _ => xup2_r b0, fun j hj => xup2_n (by omega)⟩, y2, RX_row0 y3, by rw [xup2_n (by decide)]; exact y4, by rw [xup2_n (by decide)]; exact y5, xup2_s, y7⟩ (by rw [show tkT C m a - d + d = tkT C m a by omega]; rfl) (by omega) (by omega) (fun v => ?_) hF3 (fun z hz => by simp only [List.mem_cons, List.not_mem_nil, or_false] at hz; rcases hz with rfl | rfl | rfl | rfl | rfl <;> exact xlk_mem rfl)
    obtain ⟨g1, g2, g3⟩ := hr3 v
    exact ⟨FF_c (fun r c1 _ => xup2_r (by omega)) g1, g2, g3⟩
  refine sX11_expression_451 rfl ?_
  refine tX11_expression_452 hS ?_
  rw [z1.2 27 (by decide), h27]
  cases rc with
  | false =>
    rw [if_neg (by decide)]
    refine sX11_expression_455 (fun _ => ?_) (fun v => absurd rfl v)
    exact go K2 N2 S2 V2 hz2 hL2.2.2.2.1 (fun v => by cases v) hF2
  | true =>
    rw [if_pos rfl]
    refine sX11_expression_455 (fun v => absurd v (by decide)) (fun _ => ?_)
    refine sX11_expression_458 rfl ?_
    refine tX11_expression_459 hS ?_
    rw [z4]
    refine nX11_expression_462 (by decide) (fun v => absurd rfl v) (fun _ => ?_)
    refine sX11_expression_465 rfl ?_
    refine nX11_expression_466 ?_
    refine nX11_expression_468 ?_
    refine sX11_expression_469 rfl ?_
    refine tX11_expression_470 hS ?_
    rw [z6]
    refine nX11_expression_473 ?_
    refine tX11_expression_474 hS (Nat.le_of_ble_eq_true rfl) ?_
    refine c_take hS z3 (by decide) (by omega) (by omega) (fun K3 N3 o3 x3 => ?_)
    have o30 : K3 0 = K2 0 := o3 0 (by decide) (by decide) (by decide)
    obtain ⟨a2, a3, a4, a4', a5, a6, a7⟩ := hr2 rfl
    refine go K3 N3 _ V2 ⟨fE_t z1 (fE_R (fR_3 o3)), gS_t z2 (gS_up (by decide)), x3, by rw [o30]; exact z4, by rw [o30]; exact z5, by rw [o30]; exact z6, fun v => (by cases v)⟩ (by rw [o30]; exact hL2.2.2.2.1) (fun _ => ⟨FF_c (K := K2) (fun r c1 _ => o3 r (by omega) (by omega) (by omega)) ?_, ?_, a7⟩) hF2
    · obtain ⟨⟨g1, g2, g3, g4⟩, g5⟩ := a5
      exact ⟨g1, g2, g3, g4, g5⟩
    · rw [VV_c (S := S2) (fun w hw => vup_n (by omega)) (by omega), vup_s, a6]
      rfl
theorem x_end {a : Nat} {x : Lv} {ys : List Lv} (hS : RS h b) (hT : RT K0 C m d n lo) (h27 : K0 0 27 = if rc = true then 1 else 0) (hB : K0 0 0 = nI B) (hB2 : B ≤ 512) (hyl : ys.length ≤ 20) (hx : wl x) (hro : rc = true → decide (ys.length = 0) = true) (h1 : tkK C m a ≠ 2) (h2 : tkK C m a ≠ 3) (h3 : tkK C m a ≠ 40) (h4 : tkK C m a ≠ 42) (h5 : tkK C m a ≠ 43) (h6 : tkK C m a ≠ 45) (h7 : tkK C m a ≠ 47) (h8 : tkK C m a = 41 → ys = []) : X2 g l h b Q C m d n lo B c E mg rc K0 N0 S0 a x ys (r1 x) (decide (ys.length = 0)) a := by
  intro K N S V p lv0 hz hL hpa hpn hlo hr hF hlv
  rw [← List.append_nil (r1 x)] at hF
  refine x_to356 (a := a) (p := p) hS hT h27 hB hB2 hyl hx h1 h2 h3 h4 h7 hz hL hr hF hlv (fun K2 N2 S2 V2 hz2 hL2 hr2 hF2 => ?_)
  have hT2 := RT_E hz2.1 hT
  obtain ⟨z1, z2, z3, z4, z5, z6, z7⟩ := id hz2
  refine x_412 hS hT2 hL2 h5 h6 ?_
  refine sX11_expression_412 rfl ?_
  refine tX11_expression_413 hS ?_
  rw [z6]
  refine nX11_expression_416 (by omega) (fun v => ?_) (fun v => ?_)
  · have hd : decide (ys.length = 0) = false := decide_eq_false v
    have hrc : rc = false := by
      cases rc with
      | false => rfl
      | true => have := hro rfl; rw [hd] at this; cases this
    obtain ⟨u1, u2⟩ := z7 hrc
    subst u1; subst u2
    refine sX11_expression_430 rfl ?_
    refine nX11_expression_431 ?_
    refine tX11_expression_433 hS (Nat.le_of_ble_eq_true rfl) ?_
    refine c_isSign11 hS hT2 hL2 (by decide) (by decide) (fun u => absurd (congrArg List.length (h8 u)) v) (fun _ => ?_)
    refine sX11_expression_436 (fun u => absurd rfl u) (fun _ => ?_)
    refine sX11_expression_439 rfl ?_
    refine nX11_expression_440 ?_
    refine sX11_expression_441 rfl ?_
    refine tX11_expression_442 hS ?_
    rw [hL2.2.2.1]
    refine tX11_expression_445 hS (Nat.le_of_ble_eq_true rfl) ?_
    refine c_fails hS (by decide) z4 (fun v => absurd v (by decide)) (fun _ => ?_)
    refine sX11_expression_448 rfl ?_
    refine sX11_expression_449 rfl ?_
    exact sX11_expression_450 (hF2.2.1 hrc hd _ _ (fE_t z1 (fE_R fR_w)) (RX_row0 (RX_row0 z3)) (by rw [xup2_n (by decide), xup2_s]) (by rw [xup2_s]))
  · have hd : decide (ys.length = 0) = true := decide_eq_true v
    refine sX11_expression_419 ?_
    refine sX11_expression_420 ?_
    refine sX11_expression_422 rfl ?_
    refine tX11_expression_423 hS ?_
    rw [hL2.2.2.1]
    refine sX11_expression_426 ?_
    refine sX11_expression_427 ?_
    refine sX11_expression_196 rfl ?_
    refine sX11_expression_198 (fun _ => ?_) (fun v => absurd rfl v)
    refine sX11_expression_498 ?_
    refine sX11_expression_26 rfl ?_
    refine sX11_expression_28 (fun _ => ?_) (fun v => absurd rfl v)
    refine sX11_expression_501 rfl ?_
    refine sX11_expression_502 ?_
    cases rc with
    | false =>
      obtain ⟨u1, u2⟩ := z7 rfl
      subst u1; subst u2
      exact hF2.1 rfl hd K2 z1 z3 z4 z5
    | true =>
      have e0 : ys = [] := List.length_eq_zero_iff.mp v
      subst e0
      obtain ⟨a2, a3, a4, a4', a5, a6, a7⟩ := hr2 rfl
      have a6' : V2 = [S2 0] := a6
      refine hF2.2.2.1 rfl K2 N2 S2 _ z1 z2 z3 (by rw [a6']; rfl) (a7 _ (by rw [a6']; exact List.mem_cons_self)) z4 z5
end RefExpr5
