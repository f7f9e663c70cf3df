section RefExpr3
variable {g : xG} {l : Launch} {h : xH} {b : Nat} {Q : Option Value → xH → Prop} {C : Nat → Nat} {m d n lo B c : Nat} {E : Nat → Option (Nat × Vl)} {so ln : Nat → Nat} {nm : Nat → Nat → Nat} {rc : Bool} {K0 : Nat → Nat → Int32} {N0 : Nat → Nat} {S0 : Nat → Vl}
def FF (K : Nat → Nat → Int32) (d : Nat) (x : Lv) (ys : List Lv) : Prop := gT K d ys.length x ∧ gM K d ys.length x ∧ gR K ys.length x ∧ gP K d ys.length x ∧ gs K d ys
def F0x (K : Nat → Nat → Int32) (d a : Nat) (x : Lv) (ys : List Lv) : Prop := gT K d ys.length x ∧ gM K d ys.length x ∧ gR K ys.length x ∧ (x.2.2.1 ≠ 0 → x.2.2.2 = a) ∧ gs K d ys
def VV (S : Nat → Vl) (x : Lv) (ys : List Lv) : List Vl := (lR S ys.length x ++ (lT S ys.length x ++ lS S ys.length x)) ++ sts S ys
theorem FF_c {K K' : Nat → Nat → Int32} {x : Lv} {ys : List Lv} (o : ∀ r, 15 ≤ r → r ≤ 23 → K' r = K r) (hF : FF K d x ys) : FF K' d x ys := by
  obtain ⟨g1, g2, g3, g4, g5⟩ := hF
  refine ⟨gT_c (by rw [o 16 (by decide) (by decide)]) (by rw [o 21 (by decide) (by decide)]) (by rw [o 22 (by decide) (by decide)]) g1, gM_c (by rw [o 15 (by decide) (by decide)]) (by rw [o 18 (by decide) (by decide)]) (by rw [o 19 (by decide) (by decide)]) (by rw [o 20 (by decide) (by decide)]) g2, ?_, ?_, gs_c (fun r j c1 c2 _ => by rw [o r c1 c2]) g5⟩
  · unfold gR at g3 ⊢; rw [o 17 (by decide) (by decide)]; exact g3
  · unfold gP at g4 ⊢; rw [o 23 (by decide) (by decide)]; exact g4
theorem VV_c {S S' : Nat → Vl} {x : Lv} {ys : List Lv} (h : ∀ w, w < 63 → S' w = S w) (hl : ys.length ≤ 20) : VV S' x ys = VV S x ys := by
  unfold VV
  rw [lR_c (h _ (by omega)), lT_c (h _ (by omega)), lS_c (h _ (by omega)), sts_c (S := S) (S' := S') (fun w hw => h w (by omega))]
/-- back to the loop's head with a token -/
theorem x_back {K : Nat → Nat → Int32} {N : Nat → Nat} {S : Nat → Vl} {q p : Nat} {lv0 : List (Nat × Value)} (hS : RS h b) (hT : RT K0 C m d n lo) (hz : Zs rc K0 N0 S0 K N S q) (hp : p ≤ n) (hlo : lo ≤ p) (hlv : ∀ z ∈ ([(0, .ref b), (2, .int (nI p)), (3, .int 0), (4, .int 1), (5, .int 0)] : List (Nat × Value)), z ∈ lv0) (k : ∀ (K' : Nat → Nat → Int32) (lv1 : List (Nat × Value)), ro K K' → RLx K' C m d lo (tkF C m (p + d)) → (∀ z ∈ ([(0, .ref b), (2, .int (nI p)), (4, .int 1)] : List (Nat × Value)), z ∈ lv1) → aw g l mX11_expression 81 lv1 [] (xB h b K') Q) : aw g l mX11_expression 196 lv0 [] (xB h b K) Q := by
  refine aw_lv hlv ?_
  obtain ⟨z1, z2, z3, z4, z5, z6, z7⟩ := id hz
  refine sX11_expression_196 rfl ?_
  refine sX11_expression_198 (fun _ => ?_) (fun v => absurd rfl v)
  refine sX11_expression_498 ?_
  refine sX11_expression_26 rfl ?_
  refine sX11_expression_28 (fun v => absurd v (by decide)) (fun _ => ?_)
  refine sX11_expression_31 rfl ?_
  refine tX11_expression_32 hS ?_
  rw [z4]
  refine nX11_expression_35 (by decide) (fun v => absurd rfl v) (fun _ => ?_)
  refine sX11_expression_38 rfl ?_
  refine tX11_expression_39 hS ?_
  rw [z5]
  refine sX11_expression_42 (fun v => absurd v (by decide)) (fun _ => ?_)
  refine sX11_expression_45 rfl ?_
  refine sX11_expression_46 rfl ?_
  refine tX11_expression_47 hS (Nat.le_of_ble_eq_true rfl) ?_
  refine c_lex hS (RT_E z1 hT) hp hlo (fun K1 o1 t1 l1 => ?_)
  refine sX11_expression_50 rfl ?_
  refine sX11_expression_51 (fun _ => ?_) (fun v => absurd rfl v)
  exact k K1 _ o1 l1 (fun z hz => by simp only [List.mem_cons, List.not_mem_nil, or_false] at hz; rcases hz with rfl | rfl | rfl <;> exact xlk_mem rfl)
theorem RM_E {K K' : Nat → Nat → Int32} (o : fE K K') (hM : RM K so ln nm c) : RM K' so ln nm c := by
  unfold RM at hM ⊢
  rw [o.1 5 (by decide) (by decide) (by decide) (by decide) (by decide), o.1 8 (by decide) (by decide) (by decide) (by decide) (by decide), o.1 7 (by decide) (by decide) (by decide) (by decide) (by decide)]
  exact hM
theorem RE_E {K K' : Nat → Nat → Int32} {S S' : Nat → Vl} (o : fE K K') (hs : gS S S') (hE : RE K S E c) : RE K' S' E c := by
  intro k hk
  rw [o.1 13 (by decide) (by decide) (by decide) (by decide) (by decide), o.1 12 (by decide) (by decide) (by decide) (by decide) (by decide), hs (68 + k) (by omega) (by omega)]
  exact hE k hk
def ZE (K0 : Nat → Nat → Int32) (S0 : Nat → Vl) (so ln : Nat → Nat) (nm : Nat → Nat → Nat) (c : Nat) (E : Nat → Option (Nat × Vl)) : Prop := K0 0 28 = nI c ∧ c ≤ 100 ∧ RM K0 so ln nm c ∧ RE K0 S0 E c ∧ ∀ k k', k < c → k' < c → so k = 2 → so k' = 2 → ln k = ln k' → (∀ i, i < ln k → nm k i = nm k' i) → k = k'
/-- what holds ahead of each kind of state -/
def X0 (g : xG) (l : Launch) (h : xH) (b : Nat) (Q : Option Value → xH → Prop) (C : Nat → Nat) (m d n lo B c : Nat) (E : Nat → Option (Nat × Vl)) (mg : Nat → Nat → Option Nat × Option Nat) (rc : Bool) (K0 : Nat → Nat → Int32) (N0 : Nat → Nat) (S0 : Nat → Vl) (a : Nat) (x : Lv) (ys : List Lv) (L : List St) (o : Bool) (e : Nat) : Prop :=
  ∀ (K : Nat → Nat → Int32) (N : Nat → Nat) (S : Nat → Vl) (V : List Vl) (y : Int32) (lv0 : List (Nat × Value)), Zs rc K0 N0 S0 K N S ys.length → RLx K C m d lo a → (rc = true → F0x K d a x ys ∧ V = VV S x ys ∧ wv V) → FX h b Q d c E rc K0 N0 S0 (exe B C m E mg L V) o e → (∀ z ∈ ([(0, .ref b), (2, .int y), (4, .int 1)] : List (Nat × Value)), z ∈ lv0) → aw g l mX11_expression 81 lv0 [] (xB h b K) Q
def X1 (g : xG) (l : Launch) (h : xH) (b : Nat) (Q : Option Value → xH → Prop) (C : Nat → Nat) (m d n lo B c : Nat) (E : Nat → Option (Nat × Vl)) (mg : Nat → Nat → Option Nat × Option Nat) (rc : Bool) (K0 : Nat → Nat → Int32) (N0 : Nat → Nat) (S0 : Nat → Vl) (a : Nat) (x : Lv) (ys : List Lv) (L : List St) (o : Bool) (e : Nat) : Prop :=
  ∀ (K : Nat → Nat → Int32) (N : Nat → Nat) (S : Nat → Vl) (V : List Vl) (p : Nat) (lv0 : List (Nat × Value)), Zs rc K0 N0 S0 K N S ys.length → tkF C m (p + d) = a → p ≤ n → lo ≤ p → (rc = true → FF K d x ys ∧ V = S 63 :: VV S x ys ∧ wv V) → FX h b Q d c E rc K0 N0 S0 (exe B C m E mg L V) o e → (∀ z ∈ ([(0, .ref b), (2, .int (nI p)), (3, .int 0), (4, .int 1), (5, .int 1)] : List (Nat × Value)), z ∈ lv0) → aw g l mX11_expression 196 lv0 [] (xB h b K) Q
def X2 (g : xG) (l : Launch) (h : xH) (b : Nat) (Q : Option Value → xH → Prop) (C : Nat → Nat) (m d n lo B c : Nat) (E : Nat → Option (Nat × Vl)) (mg : Nat → Nat → Option Nat × Option Nat) (rc : Bool) (K0 : Nat → Nat → Int32) (N0 : Nat → Nat) (S0 : Nat → Vl) (a : Nat) (x : Lv) (ys : List Lv) (L : List St) (o : Bool) (e : Nat) : Prop :=
  ∀ (K : Nat → Nat → Int32) (N : Nat → Nat) (S : Nat → Vl) (V : List Vl) (p : Nat) (lv0 : List (Nat × Value)), Zs rc K0 N0 S0 K N S ys.length → RLx K C m d lo a → tkF C m (p + d) = a → p ≤ n → lo ≤ p → (rc = true → FF K d x ys ∧ V = S 63 :: VV S x ys ∧ wv V) → FX h b Q d c E rc K0 N0 S0 (exe B C m E mg L V) o e → (∀ z ∈ ([(0, .ref b), (2, .int (nI p)), (3, .int 0), (4, .int 1)] : List (Nat × Value)), z ∈ lv0) → aw g l mX11_expression 248 lv0 [] (xB h b K) Q
theorem x_head {a : Nat} {x : Lv} {ys : List Lv} {K : Nat → Nat → Int32} {N : Nat → Nat} {S : Nat → Vl} {y : Int32} {lv0 : List (Nat × Value)} (hS : RS h b) (hyl : ys.length ≤ 20) (hz : Zs rc K0 N0 S0 K N S ys.length) (hL : RLx K C m d lo a) (hr : rc = true → F0x K d a x ys) (hlv : ∀ z ∈ ([(0, .ref b), (2, .int y), (4, .int 1)] : List (Nat × Value)), z ∈ lv0) (k : ∀ (K1 : Nat → Nat → Int32), Zs rc K0 N0 S0 K1 N S ys.length → RLx K1 C m d lo a → (rc = true → FF K1 d x ys) → aw g l mX11_expression 96 [(0, .ref b), (2, .int y), (3, .int 0), (4, .int 1)] [] (xB h b K1) Q) : aw g l mX11_expression 81 lv0 [] (xB h b K) Q := by
  refine aw_lv hlv ?_
  obtain ⟨z1, z2, z3, z4, z5, z6, z7⟩ := id hz
  refine sX11_expression_81 ?_
  refine sX11_expression_82 ?_
  refine sX11_expression_83 rfl ?_
  refine tX11_expression_84 hS ?_
  refine sX11_expression_87 rfl ?_
  refine tX11_expression_88 hS ?_
  rw [z6]
  refine sX11_expression_91 rfl ?_
  refine tX11_expression_92 hS ?_
  rw [hL.2.2.1]
  refine tX11_expression_95 hS (by decide) (by decide) rfl (show ys.length < 21 by omega) ?_
  refine aw_lv (fun z hz => by simp only [List.mem_cons, List.not_mem_nil, or_false] at hz; rcases hz with rfl | rfl | rfl | rfl <;> exact xlk_mem rfl) (k _ (Zs_u (by decide) (by decide) hz) (RLx_u (by decide) hL) (fun v => ?_))
  obtain ⟨a1, a2, a3, a4, a5⟩ := hr v
  refine ⟨gT_c (by rw [xup2_r (by decide)]) (by rw [xup2_r (by decide)]) (by rw [xup2_r (by decide)]) a1, gM_c (by rw [xup2_r (by decide)]) (by rw [xup2_r (by decide)]) (by rw [xup2_r (by decide)]) (by rw [xup2_r (by decide)]) a2, ?_, fun u => ?_, gs_c (fun r j b1 b2 b3 => ?_) a5⟩
  · unfold gR at a3 ⊢; rw [xup2_r (by decide)]; exact a3
  · rw [xup2_s, a4 u]
  · by_cases h23 : r = 23
    · subst h23; rw [xup2_n (by omega)]
    · rw [xup2_r (by omega)]
theorem x_flat {a q : Nat} {K : Nat → Nat → Int32} {N : Nat → Nat} {S : Nat → Vl} {y : Int32} (hS : RS h b) (hT : RT K0 C m d n lo) (hor : tkK C m a ≠ 40 ∨ 20 ≤ q) (hq : q ≤ 20) (hz : Zs rc K0 N0 S0 K N S q) (hL : RLx K C m d lo a) (k : aw g l mX11_expression 138 [(0, .ref b), (2, .int y), (3, .int 0), (4, .int 1)] [] (xB h b K) Q) : aw g l mX11_expression 96 [(0, .ref b), (2, .int y), (3, .int 0), (4, .int 1)] [] (xB h b K) Q := by
  obtain ⟨z1, z2, z3, z4, z5, z6, z7⟩ := id hz
  refine sX11_expression_96 rfl ?_
  refine nX11_expression_97 ?_
  refine tX11_expression_99 hS (Nat.le_of_ble_eq_true rfl) ?_
  refine c_isSign11 hS (RT_E z1 hT) hL (by decide) (by decide) (fun v => ?_) (fun v => ?_)
  · refine sX11_expression_102 (fun v => absurd v (by decide)) (fun _ => ?_)
    refine sX11_expression_105 rfl ?_
    refine tX11_expression_106 hS ?_
    rw [z6]
    refine nX11_expression_109 ?_
    refine nX11_expression_111 (by omega) (by omega) (fun _ => k) (fun v => absurd v (by omega))
  · exact sX11_expression_102 (fun _ => k) (fun v => absurd rfl v)
theorem x_reject {a q e : Nat} {o : Bool} {R : Rs} {K : Nat → Nat → Int32} {N : Nat → Nat} {S : Nat → Vl} {y : Int32} (hS : RS h b) (ho : o = false) (he : e = a) (h3 : tkK C m a ≠ 3) (h2 : tkK C m a ≠ 2) (hro : rc = true → o = true) (hz : Zs rc K0 N0 S0 K N S q) (hL : RLx K C m d lo a) (hF : FX h b Q d c E rc K0 N0 S0 R o e) : aw g l mX11_expression 138 [(0, .ref b), (2, .int y), (3, .int 0), (4, .int 1)] [] (xB h b K) Q := by
  obtain ⟨z1, z2, z3, z4, z5, z6, z7⟩ := id hz
  have kb := tkK_big C m a
  have hrc : rc = false := by
    cases rc with
    | false => rfl
    | true => have := hro rfl; rw [ho] at this; cases this
  obtain ⟨n1, n2⟩ := z7 hrc
  subst n1; subst n2
  refine sX11_expression_138 rfl ?_
  refine tX11_expression_139 hS ?_
  rw [hL.2.2.2.2]
  refine nX11_expression_142 ?_
  refine nX11_expression_143 (by split <;> omega) (by decide) (fun _ => ?_) (fun v => by split at v <;> omega)
  refine sX11_expression_154 rfl ?_
  refine tX11_expression_155 hS ?_
  rw [hL.2.2.2.2]
  refine nX11_expression_158 ?_
  refine nX11_expression_159 (by split <;> omega) (by decide) (fun _ => ?_) (fun v => by split at v <;> omega)
  refine sX11_expression_181 rfl ?_
  refine nX11_expression_182 ?_
  refine sX11_expression_183 rfl ?_
  refine tX11_expression_184 hS ?_
  rw [hL.2.2.1]
  refine tX11_expression_187 hS (Nat.le_of_ble_eq_true rfl) ?_
  refine c_fails hS (by decide) z4 (fun v => absurd v (by decide)) (fun _ => ?_)
  refine sX11_expression_190 rfl ?_
  refine sX11_expression_191 rfl ?_
  subst he
  exact sX11_expression_192 (hF.2.1 hrc ho _ _ (fE_t z1 (fE_R fR_w)) (RX_row0 (RX_row0 z3)) (by rw [xup2_n (by decide), xup2_s]) (by rw [xup2_s]))
end RefExpr3
