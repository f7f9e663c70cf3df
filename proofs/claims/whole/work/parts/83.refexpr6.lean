section RefExpr6
variable {g : xG} {l : Launch} {h : xH} {b : Nat} {Q : Option Value → xH → Prop} {C : Nat → Nat} {m d n lo B c : Nat} {E : Nat → Option (Nat × Vl)} {so ln : Nat → Nat} {nm : Nat → Nat → Nat} {rc : Bool} {K0 : Nat → Nat → Int32} {N0 : Nat → Nat} {S0 : Nat → Vl}
theorem X0_f {mg : Nat → Nat → Option Nat × Option Nat} {a e : Nat} {x : Lv} {ys : List Lv} {L L' : List St} {o : Bool} (hrc : rc = false) (k : X0 g l h b Q C m d n lo B c E mg rc K0 N0 S0 a x ys L o e) : X0 g l h b Q C m d n lo B c E mg rc K0 N0 S0 a x ys L' o e := by
  subst hrc
  intro K N S V y lv0 hz hL hr hF hlv
  exact k K N S V y lv0 hz hL (fun v => by cases v) (FX_f hF) hlv
theorem X1_f {mg : Nat → Nat → Option Nat × Option Nat} {a e : Nat} {x : Lv} {ys : List Lv} {L L' : List St} {o : Bool} (hrc : rc = false) (k : X1 g l h b Q C m d n lo B c E mg rc K0 N0 S0 a x ys L o e) : X1 g l h b Q C m d n lo B c E mg rc K0 N0 S0 a x ys L' o e := by
  subst hrc
  intro K N S V p lv0 hz hpa hpn hlo hr hF hlv
  exact k K N S V p lv0 hz hpa hpn hlo (fun v => by cases v) (FX_f hF) hlv
theorem x_expr (hS : RS h b) (hT : RT K0 C m d n lo) (h27 : K0 0 27 = if rc = true then 1 else 0) (hB : K0 0 0 = nI B) (hB0 : 16 ≤ B) (hB2 : B ≤ 512) (hZ : rc = true → ZE K0 S0 so ln nm c E) {md a e : Nat} {x : Lv} {ys : List Lv} {L : List St} {o : Bool} (pm : PM C m md a x ys L o e) : (rc = true → o = true) → wl x → wls ys → ys.length ≤ 20 → (md = 0 → X0 g l h b Q C m d n lo B c E (mng so ln nm c C) rc K0 N0 S0 a x ys L o e) ∧ (md = 1 → X1 g l h b Q C m d n lo B c E (mng so ln nm c C) rc K0 N0 S0 a x ys L o e) ∧ (md = 2 → X2 g l h b Q C m d n lo B c E (mng so ln nm c C) rc K0 N0 S0 a x ys L o e) := by
  have nof : (rc = true → false = true) → rc = false := fun v => by
    cases rc with
    | false => rfl
    | true => cases v rfl
  refine pm (fun md a x ys L o e => (rc = true → o = true) → wl x → wls ys → ys.length ≤ 20 → (md = 0 → X0 g l h b Q C m d n lo B c E (mng so ln nm c C) rc K0 N0 S0 a x ys L o e) ∧ (md = 1 → X1 g l h b Q C m d n lo B c E (mng so ln nm c C) rc K0 N0 S0 a x ys L o e) ∧ (md = 2 → X2 g l h b Q C m d n lo B c E (mng so ln nm c C) rc K0 N0 S0 a x ys L o e)) ⟨?_, ?_, ?_, ?_, ?_, ?_, ?_, ?_, ?_, ?_, ?_, ?_, ?_, ?_, ?_, ?_, ?_, ?_⟩
  · intro a x ys L h1 h2 hro hx hys hyl
    refine ⟨fun _ => ?_, fun v => (by cases v), fun v => (by cases v)⟩
    intro K N S V y lv0 hz hL hr hF hlv
    exact x_head hS hyl hz hL (fun v => (hr v).1) hlv (fun K1 hz1 hL1 hr1 => x_flat hS hT (Or.inr h2) hyl hz1 hL1 (x_reject hS rfl rfl (by omega) (by omega) hro hz1 hL1 hF))
  · intro a x ys L o e h1 h2 h3 ih hro hx hys hyl
    refine ⟨fun _ => ?_, fun v => (by cases v), fun v => (by cases v)⟩
    exact x_nest hS hT h1 h2 (Or.inl ⟨h3, rfl⟩) (by rw [if_pos h3]; exact (ih hro ⟨Or.inr (Or.inr (Or.inr rfl)), Or.inl rfl, Or.inl rfl⟩ ⟨hx, hys⟩ h2).1 rfl)
  · intro a x ys L o e h1 h2 h3 ih hro hx hys hyl
    refine ⟨fun _ => ?_, fun v => (by cases v), fun v => (by cases v)⟩
    exact x_nest hS hT h1 h2 (Or.inr ⟨h3, rfl⟩) (by rw [if_neg h3]; exact (ih hro ⟨Or.inl rfl, Or.inl rfl, Or.inl rfl⟩ ⟨hx, hys⟩ h2).1 rfl)
  · intro a x ys L o e h1 ih hro hx hys hyl
    refine ⟨fun _ => ?_, fun v => (by cases v), fun v => (by cases v)⟩
    exact x_name hS hT h27 hB hB2 hZ h1 hyl ((ih hro hx hys hyl).2.1 rfl)
  · intro a x ys L o e h1 h2 ih hro hx hys hyl
    refine ⟨fun _ => ?_, fun v => (by cases v), fun v => (by cases v)⟩
    have eA : (3, a, tlen C m a) :: L = opA C m a ++ L := by unfold opA; rw [if_neg h2]; rfl
    have eE : tkF C m (opE C m a) = nx C m a := by unfold opE; rw [if_neg h2]; rfl
    rw [eA]
    exact x_number hS hT h27 hB hB0 hB2 h1 hyl (fun _ v => absurd v h2) (fun _ v => absurd v h2) (fun _ => by rw [eE]; exact (ih hro hx hys hyl).2.1 rfl)
  · intro a x ys L o e h1 h2 h3 ih hro hx hys hyl
    refine ⟨fun _ => ?_, fun v => (by cases v), fun v => (by cases v)⟩
    have eA : (3, a, tlen C m a) :: (3, nx C m (nx C m a), tlen C m (nx C m (nx C m a))) :: (15, nx C m a, 0) :: L = opA C m a ++ L := by unfold opA; rw [if_pos h2]; rfl
    have eE : tkF C m (opE C m a) = nx C m (nx C m (nx C m a)) := by unfold opE; rw [if_pos h2]; rfl
    rw [eA]
    exact x_number hS hT h27 hB hB0 hB2 h1 hyl (fun _ _ => h3) (fun _ _ v => absurd h3 v) (fun _ => by rw [eE]; exact (ih hro hx hys hyl).2.1 rfl)
  · intro a x ys L h1 h2 h3 hro hx hys hyl
    refine ⟨fun _ => ?_, fun v => (by cases v), fun v => (by cases v)⟩
    refine X0_f (L := opA C m a ++ []) (nof hro) ?_
    exact x_number hS hT h27 hB hB0 hB2 h1 hyl (fun v => by cases hro v) (fun _ _ _ => ⟨rfl, rfl⟩) (fun v => absurd (v h2) h3)
  · intro a x ys L h1 h2 h3 hro hx hys hyl
    refine ⟨fun _ => ?_, fun v => (by cases v), fun v => (by cases v)⟩
    intro K N S V y lv0 hz hL hr hF hlv
    exact x_head hS hyl hz hL (fun v => (hr v).1) hlv (fun K1 hz1 hL1 hr1 => x_flat hS hT (Or.inl h3) hyl hz1 hL1 (x_reject hS rfl rfl h2 h1 hro hz1 hL1 hF))
  · intro a x ys L o e h1 h2 ih hro hx hys hyl
    refine ⟨fun v => (by cases v), fun _ => ?_, fun v => (by cases v)⟩
    exact x_raise hS hT h27 hB hB0 hB2 hyl h1 (fun _ => h2) (fun _ v => absurd h2 v) (fun _ => (ih hro hx hys hyl).2.2 rfl)
  · intro a x ys L h1 h2 hro hx hys hyl
    refine ⟨fun v => (by cases v), fun _ => ?_, fun v => (by cases v)⟩
    refine X1_f (L := (17, a, pv C m a) :: []) (nof hro) ?_
    exact x_raise hS hT h27 hB hB0 hB2 hyl h1 (fun v => by cases hro v) (fun _ _ => ⟨rfl, rfl⟩) (fun v => absurd v h2)
  · intro a x ys L o e h1 ih hro hx hys hyl
    refine ⟨fun v => (by cases v), fun _ => ?_, fun v => (by cases v)⟩
    exact x_noraise hS hT h1 ((ih hro hx hys hyl).2.2 rfl)
  · intro a x y ys L o e h1 ih hro hx hys hyl
    refine ⟨fun v => (by cases v), fun v => (by cases v), fun _ => ?_⟩
    exact x_close hS hT h27 hB hB2 hyl hx h1 ((ih hro hys.1 hys.2 (Nat.le_of_succ_le hyl)).2.1 rfl)
  · intro a x ys L o e h1 ih hro hx hys hyl
    refine ⟨fun v => (by cases v), fun v => (by cases v), fun _ => ?_⟩
    exact x_sum hS hT h27 hB hB2 hyl hx (Or.inl ⟨h1, rfl⟩) ((ih hro ⟨Or.inr (Or.inl rfl), Or.inl rfl, Or.inl rfl⟩ hys hyl).1 rfl)
  · intro a x ys L o e h1 ih hro hx hys hyl
    refine ⟨fun v => (by cases v), fun v => (by cases v), fun _ => ?_⟩
    exact x_sum hS hT h27 hB hB2 hyl hx (Or.inr ⟨h1, rfl⟩) ((ih hro ⟨Or.inr (Or.inr (Or.inl rfl)), Or.inl rfl, Or.inl rfl⟩ hys hyl).1 rfl)
  · intro a x ys L o e h1 ih hro hx hys hyl
    refine ⟨fun v => (by cases v), fun v => (by cases v), fun _ => ?_⟩
    exact x_term hS hT h27 hB hB2 hyl hx (Or.inl ⟨h1, rfl⟩) ((ih hro ⟨hx.1, Or.inr (Or.inl rfl), Or.inl rfl⟩ hys hyl).1 rfl)
  · intro a x ys L o e h1 ih hro hx hys hyl
    refine ⟨fun v => (by cases v), fun v => (by cases v), fun _ => ?_⟩
    exact x_term hS hT h27 hB hB2 hyl hx (Or.inr ⟨h1, rfl⟩) ((ih hro ⟨hx.1, Or.inr (Or.inr rfl), Or.inl rfl⟩ hys hyl).1 rfl)
  · intro a x ys L o e h1 ih hro hx hys hyl
    refine ⟨fun v => (by cases v), fun v => (by cases v), fun _ => ?_⟩
    exact x_row hS hT h27 hB hB2 hyl hx h1 ((ih hro ⟨hx.1, hx.2.1, Or.inr rfl⟩ hys hyl).1 rfl)
  · intro a x ys h1 h2 h3 h4 h5 h6 h7 h8 hro hx hys hyl
    refine ⟨fun v => (by cases v), fun v => (by cases v), fun _ => ?_⟩
    exact x_end hS hT h27 hB hB2 hyl hx hro h1 h2 h3 h4 h5 h6 h7 h8
theorem c_expression {p a e : Nat} {L : List St} {o : Bool} (hS : RS h b) (hT : RT K0 C m d n lo) (h27 : K0 0 27 = if rc = true then 1 else 0) (hB : K0 0 0 = nI B) (hB0 : 16 ≤ B) (hB2 : B ≤ 512) (hZ : rc = true → ZE K0 S0 so ln nm c E) (hX : RX K0 N0 S0) (hpn : p ≤ n) (hlo : lo ≤ p) (hpa : tkF C m (p + d) = a) (pm : PM0 C m a L o e) (hro : rc = true → o = true) (hF : FX h b Q d c E rc K0 N0 S0 (exe B C m E (mng so ln nm c C) L []) o e) : ac g l mX11_expression [.ref b, .int (nI p)] (xB h b K0) Q := by
  refine ac_of (by decide) (Nat.le_of_ble_eq_true rfl) ?_
  have hC := hT.1
  have hnd : n + d = m := hT.2.1
  refine sX11_expression_0 rfl ?_
  refine sX11_expression_1 ?_
  refine sX11_expression_2 rfl ?_
  refine nX11_expression_3 ?_
  refine tX11_expression_4 hS ?_
  refine sX11_expression_7 rfl ?_
  refine sX11_expression_8 ?_
  refine tX11_expression_9 hS ?_
  refine sX11_expression_12 rfl ?_
  refine nX11_expression_13 ?_
  refine tX11_expression_14 hS ?_
  refine sX11_expression_17 rfl ?_
  refine tX11_expression_18 hS (Nat.le_of_ble_eq_true rfl) ?_
  refine c_open (q := 0) hS xup2_s (by decide) ?_
  generalize hK1 : xup2 (xup2 (xup2 (xup2 (xup2 (xup2 (xup2 K0 0 29 (nI 0)) 0 31 (-1)) 0 32 (nI 0)) 15 0 (nI 0)) 16 0 (nI 0)) 17 0 (nI 0)) 18 0 (nI 0) = K1
  have k0 : ∀ j, j ≠ 29 → j ≠ 31 → j ≠ 32 → K1 0 j = K0 0 j := fun j a1 a2 a3 => by rw [← hK1, xup2_r (by decide), xup2_r (by decide), xup2_r (by decide), xup2_r (by decide), xup2_n a3, xup2_n a2, xup2_n a1]
  have kr : ∀ r, r ≠ 0 → r ≠ 15 → r ≠ 16 → r ≠ 17 → r ≠ 18 → K1 r = K0 r := fun r b0 b1 b2 b3 b4 => by rw [← hK1, xup2_r b4, xup2_r b3, xup2_r b2, xup2_r b1, xup2_r b0, xup2_r b0, xup2_r b0]
  have f15 : K1 15 0 = 0 := by rw [← hK1, xup2_r (by decide), xup2_r (by decide), xup2_r (by decide), xup2_s]; rfl
  have f16 : K1 16 0 = 0 := by rw [← hK1, xup2_r (by decide), xup2_r (by decide), xup2_s]; rfl
  have f17 : K1 17 0 = 0 := by rw [← hK1, xup2_r (by decide), xup2_s]; rfl
  have f18 : K1 18 0 = 0 := by rw [← hK1, xup2_s]; rfl
  have F1 : fE K0 K1 := ⟨fun r b0 _ _ _ b4 => kr r b0 (by omega) (by omega) (by omega) (by omega), fun j hj => k0 j (by omega) (by omega) (by omega)⟩
  have e29 : K1 0 29 = nI 0 := by rw [← hK1, xup2_r (by decide), xup2_r (by decide), xup2_r (by decide), xup2_r (by decide), xup2_n (by decide), xup2_n (by decide), xup2_s]
  have e31 : K1 0 31 = -1 := by rw [← hK1, xup2_r (by decide), xup2_r (by decide), xup2_r (by decide), xup2_r (by decide), xup2_n (by decide), xup2_s]
  have e32 : K1 0 32 = nI 0 := by rw [← hK1, xup2_r (by decide), xup2_r (by decide), xup2_r (by decide), xup2_r (by decide), xup2_s]
  have hz1 : Zs rc K0 N0 S0 K1 N0 S0 ([] : List Lv).length := ⟨F1, gS_r S0, RX_row (kr 1 (by decide) (by decide) (by decide) (by decide) (by decide)) (kr 2 (by decide) (by decide) (by decide) (by decide) (by decide)) (kr 3 (by decide) (by decide) (by decide) (by decide) (by decide)) hX, e29, e31, e32, fun _ => ⟨rfl, rfl⟩⟩
  refine sX11_expression_21 ?_
  refine sX11_expression_22 ?_
  refine sX11_expression_23 ?_
  refine sX11_expression_24 ?_
  refine sX11_expression_26 rfl ?_
  refine sX11_expression_28 (fun v => absurd v (by decide)) (fun _ => ?_)
  refine sX11_expression_31 rfl ?_
  refine tX11_expression_32 hS ?_
  rw [e29]
  refine nX11_expression_35 (by decide) (fun v => absurd rfl v) (fun _ => ?_)
  refine sX11_expression_38 rfl ?_
  refine tX11_expression_39 hS ?_
  rw [e31]
  refine sX11_expression_42 (fun v => absurd v (by decide)) (fun _ => ?_)
  refine sX11_expression_45 rfl ?_
  refine sX11_expression_46 rfl ?_
  refine tX11_expression_47 hS (Nat.le_of_ble_eq_true rfl) ?_
  refine c_lex hS (RT_E F1 hT) hpn hlo (fun K3 o3 t3 l3 => ?_)
  rw [hpa] at l3
  have hz3 := Zs_o o3 hz1
  refine sX11_expression_50 rfl ?_
  refine sX11_expression_51 (fun v => absurd v (by decide)) (fun _ => ?_)
  refine sX11_expression_54 rfl ?_
  refine nX11_expression_55 ?_
  refine tX11_expression_57 hS (Nat.le_of_ble_eq_true rfl) ?_
  refine c_isSign11 hS t3 l3 (by decide) (by decide) (fun v => ?_) (fun v => ?_)
  · refine sX11_expression_60 (fun u => absurd u (by decide)) (fun _ => ?_)
    have ham : a < m := tkK_lt (C := C) (by omega)
    have tg2 := tkT_gt (C := C) ham
    have tl2 := tkT_le hC (Nat.le_of_lt ham)
    have hb' := l3.1
    have pm : PM C m 0 (nx C m a) ((13, a), (0, 0), (0, 0)) [] L o e := by
      rcases pm with ⟨-, pm⟩ | ⟨w, -⟩
      · exact pm
      · exact absurd v w
    have ih := (x_expr (g := g) (l := l) (h := h) (b := b) (Q := Q) (N0 := N0) (S0 := S0) hS hT h27 hB hB0 hB2 hZ pm hro ⟨Or.inr (Or.inr (Or.inr rfl)), Or.inl rfl, Or.inl rfl⟩ trivial (by decide)).1 rfl
    refine sX11_expression_63 rfl ?_
    refine tX11_expression_64 hS ?_
    refine sX11_expression_67 rfl ?_
    refine tX11_expression_68 hS ?_
    rw [hz3.2.2.2.2.2.1]
    refine sX11_expression_71 ?_
    refine tX11_expression_72 hS (by decide) (by decide) rfl (show 0 < 21 by decide) (Or.inr rfl) ?_
    refine sX11_expression_73 rfl ?_
    refine sX11_expression_74 rfl ?_
    refine tX11_expression_75 hS ?_
    rw [xup2_r (by decide), l3.2.2.2.1]
    refine tX11_expression_78 hS (Nat.le_of_ble_eq_true rfl) ?_
    have hz4 := Zs_u (r := 18) (i := 0) (v := 1) (by decide) (by decide) hz3
    refine c_lex hS (RT_E (fE_u (by decide) (by decide)) t3) (by omega) (by omega) (fun K5 o5 t5 l5' => ?_)
    rw [show tkT C m a - d + d = tkT C m a by omega] at l5'
    refine ih K5 N0 S0 [] _ _ (Zs_o o5 hz4) l5' (fun u => ⟨⟨⟨?_, fun u => (by cases u), fun u => (by cases u), fun u => absurd rfl u⟩, ⟨?_, ?_, fun u => (by cases u), fun u => (by cases u), fun _ u => absurd rfl u⟩, ?_, fun u => absurd rfl u, trivial⟩, rfl, fun u hu => (by cases hu)⟩) hF (fun z hz => by simp only [List.mem_cons, List.not_mem_nil, or_false] at hz; rcases hz with rfl | rfl | rfl <;> exact xlk_mem rfl)
    · rw [o5.1 16 (by decide), xup2_r (by decide), o3.1 16 (by decide)]; exact f16
    · rw [o5.1 15 (by decide), xup2_r (by decide), o3.1 15 (by decide)]; exact f15
    · rw [o5.1 18 (by decide)]; exact xup2_s
    · unfold gR; rw [o5.1 17 (by decide), xup2_r (by decide), o3.1 17 (by decide)]; exact f17
  · refine sX11_expression_60 (fun _ => ?_) (fun u => absurd rfl u)
    rcases pm with ⟨w, -⟩ | ⟨-, pm⟩
    · exact absurd w v
    have ih := (x_expr (g := g) (l := l) (h := h) (b := b) (Q := Q) (N0 := N0) (S0 := S0) hS hT h27 hB hB0 hB2 hZ pm hro ⟨Or.inl rfl, Or.inl rfl, Or.inl rfl⟩ trivial (by decide)).1 rfl
    refine ih K3 N0 S0 [] _ _ hz3 l3 (fun u => ⟨⟨⟨?_, fun u => (by cases u), fun u => (by cases u), fun u => absurd rfl u⟩, ⟨?_, ?_, fun u => (by cases u), fun u => (by cases u), fun u => absurd rfl u⟩, ?_, fun u => absurd rfl u, trivial⟩, rfl, fun u hu => (by cases hu)⟩) hF (fun z hz => by simp only [List.mem_cons, List.not_mem_nil, or_false] at hz; rcases hz with rfl | rfl | rfl <;> exact xlk_mem rfl)
    · rw [o3.1 16 (by decide)]; exact f16
    · rw [o3.1 15 (by decide)]; exact f15
    · rw [o3.1 18 (by decide)]; exact f18
    · unfold gR; rw [o3.1 17 (by decide)]; exact f17
end RefExpr6
