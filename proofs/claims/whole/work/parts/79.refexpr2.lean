section RefExpr2
variable {g : xG} {l : Launch} {h : xH} {b : Nat} {Q : Option Value → xH → Prop} {C : Nat → Nat} {m d n lo B c : Nat} {E : Nat → Option (Nat × Vl)} {mg : Nat → Nat → Option Nat × Option Nat} {rc : Bool} {K0 : Nat → Nat → Int32} {N0 : Nat → Nat} {S0 : Nat → Vl}
/-- the end of a row -/
theorem x_B {K : Nat → Nat → Int32} {N : Nat → Nat} {S : Nat → Vl} {V : List Vl} {a e : Nat} {o : Bool} {y : Int32} {x : Lv} {ys : List Lv} {L : List St} {lv0 : List (Nat × Value)} (hS : RS h b) (hT : RT K0 C m d n lo) (h27 : K0 0 27 = if rc = true then 1 else 0) (hB : K0 0 0 = nI B) (hB2 : B ≤ 512) (hyl : ys.length ≤ 20) (hx : wl x) (hz : Zs rc K0 N0 S0 K N S ys.length) (hL : RLx K C m d lo a) (hr : rc = true → gT K d ys.length x ∧ gM K d ys.length x ∧ K 17 ys.length = 1 ∧ gs K d ys ∧ V = S (3 * ys.length + 2) :: (lT S ys.length x ++ lS S ys.length x) ++ sts S ys ∧ wv V) (hF : FX h b Q d c E rc K0 N0 S0 (exe B C m E mg (em x.2.1 ++ L) V) o e) (hlv : ∀ z ∈ ([(0, .ref b), (2, .int y), (3, .int 0), (4, .int 1), (5, .int 0)] : List (Nat × Value)), z ∈ lv0) (k : ∀ (K1 : Nat → Nat → Int32) (N1 : Nat → Nat) (S1 : Nat → Vl) (V1 : List Vl) (lv1 : List (Nat × Value)), Zs rc K0 N0 S0 K1 N1 S1 ys.length → RLx K1 C m d lo a → (rc = true → gM K1 d ys.length x ∧ K1 16 ys.length = 1 ∧ K1 17 ys.length = 0 ∧ gs K1 d ys ∧ V1 = S1 (3 * ys.length + 1) :: lS S1 ys.length x ++ sts S1 ys ∧ wv V1) → FX h b Q d c E rc K0 N0 S0 (exe B C m E mg L V1) o e → (∀ z ∈ ([(0, .ref b), (2, .int y), (3, .int 0), (4, .int 1), (5, .int 0)] : List (Nat × Value)), z ∈ lv1) → aw g l mX11_expression 296 lv1 [] (xB h b K1) Q) : aw g l mX11_expression 292 lv0 [] (xB h b K) Q := by
  refine aw_lv hlv ?_
  obtain ⟨z1, z2, z3, z4, z5, z6, z7⟩ := id hz
  have k27 : K 0 27 = if rc = true then 1 else 0 := by rw [z1.2 27 (by decide)]; exact h27
  refine sX11_expression_292 rfl ?_
  refine tX11_expression_293 hS (Nat.le_of_ble_eq_true rfl) ?_
  cases rc with
  | false =>
    refine c_endRowS hS (Or.inl k27) ?_
    exact k K N S V _ hz hL (fun v => by cases v) (FX_f hF) (fun z hz => by simp only [List.mem_cons, List.not_mem_nil, or_false] at hz; rcases hz with rfl | rfl | rfl | rfl | rfl <;> exact xlk_mem rfl)
  | true =>
    obtain ⟨a1, a2, a3, a5, a6, a7⟩ := hr rfl
    have kB : K 0 0 = nI B := by rw [z1.2 0 (by decide)]; exact hB
    have wr : vWf (S (3 * ys.length + 2)) := a7 _ (by rw [a6]; exact List.mem_cons_self)
    -- behind it, where it went well
    have go : ∀ (K1 : Nat → Nat → Int32) (N1 : Nat → Nat) (v : Vl), (∀ j, j ≠ 1 → j ≠ 2 → j ≠ 3 → j ≠ 16 → j ≠ 17 → K1 j = K j) → (∀ j, j ≠ ys.length → K1 16 j = K 16 j ∧ K1 17 j = K 17 j) → K1 16 ys.length = 1 → K1 17 ys.length = 0 → RX K1 N1 (va_up S (3 * ys.length + 1) v) → wv (v :: lS S ys.length x ++ sts S ys) → FX h b Q d c E true K0 N0 S0 (exe B C m E mg L (v :: lS S ys.length x ++ sts S ys)) o e → aw g l mX11_expression 296 [(0, .ref b), (2, .int y), (3, .int 0), (4, .int 1), (5, .int 0)] [] (xB h b K1) Q := by
      intro K1 N1 v o1 o2 o3 o4 x1 wv1 hF1
      have o0 : K1 0 = K 0 := o1 0 (by decide) (by decide) (by decide) (by decide) (by decide)
      refine k K1 N1 _ _ _ ⟨fE_t z1 ⟨fun r b0 b1 b2 b3 b4 => o1 r b1 b2 b3 (by omega) (by omega), fun j _ => by rw [o0]⟩, gS_t z2 (gS_up (by omega)), x1, by rw [o0]; exact z4, by rw [o0]; exact z5, by rw [o0]; exact z6, fun v => (by cases v)⟩ (RLx_0 (by rw [o0]) (by rw [o0]) (by rw [o0]) hL) (fun _ => ⟨?_, o3, o4, ?_, ?_, wv1⟩) hF1 (fun z hz => by simp only [List.mem_cons, List.not_mem_nil, or_false] at hz; rcases hz with rfl | rfl | rfl | rfl | rfl <;> exact xlk_mem rfl)
      · exact gM_c (by rw [o1 15 (by decide) (by decide) (by decide) (by decide) (by decide)]) (by rw [o1 18 (by decide) (by decide) (by decide) (by decide) (by decide)]) (by rw [o1 19 (by decide) (by decide) (by decide) (by decide) (by decide)]) (by rw [o1 20 (by decide) (by decide) (by decide) (by decide) (by decide)]) a2
      · refine gs_c (fun r j b1 b2 b3 => ?_) a5
        by_cases hr17 : r = 17
        · subst hr17; exact (o2 j (by omega)).2
        by_cases hr16 : r = 16
        · subst hr16; exact (o2 j (by omega)).1
        · rw [o1 r (by omega) (by omega) (by omega) hr16 hr17]
      · rw [vup_s, lS_c (vup_n (by omega)), sts_c (fun w hw => vup_n (by omega))]
    by_cases ht0 : x.2.1.1 = 0
    · have hT1 : K 16 ys.length = if false = true then 1 else 0 := by have := a1.1; rw [if_pos ht0] at this; exact this
      have eT : lT S ys.length x = [] := by unfold lT; rw [if_pos ht0]
      have e1' : em x.2.1 = [] := by unfold em; rw [if_pos ht0]
      rw [e1', List.nil_append] at hF
      rw [eT, List.nil_append] at a6
      refine c_endRow (t := false) (o := 14) hS z3 z6 (by omega) k27 z4 kB hB2 hT1 (fun v => by cases v) wr (fun v => by cases v) (fun K1 N1 v e1 e2 o1 o2 o3 o4 x1 => ?_) (fun K1 N1 v e1 => by cases e1)
      have ev := e2 rfl
      subst ev
      exact aw_lv (fun z hz => by simp only [List.mem_cons, List.not_mem_nil, or_false] at hz; rcases hz with rfl | rfl | rfl | rfl | rfl <;> exact xlk_mem rfl) (go K1 N1 _ o1 o2 o3 o4 x1 (a6 ▸ a7) (a6 ▸ hF))
    · have hT1 : K 16 ys.length = if true = true then 1 else 0 := by have := a1.1; rw [if_neg ht0] at this; exact this
      have eT : lT S ys.length x = [S (3 * ys.length + 1)] := by unfold lT; rw [if_neg ht0]
      have t16 : x.2.1.1 ≠ 16 := by rcases hx.2.1 with v | v | v <;> omega
      have e1' : em x.2.1 = [(x.2.1.1, x.2.1.2, 0)] := by unfold em; rw [if_neg ht0, if_neg t16]
      rw [eT] at a6
      have a6' : V = S (3 * ys.length + 2) :: S (3 * ys.length + 1) :: (lS S ys.length x ++ sts S ys) := a6
      have wt : vWf (S (3 * ys.length + 1)) := a7 _ (by rw [a6']; exact List.mem_cons_of_mem _ List.mem_cons_self)
      have est : stp B C m E mg (x.2.1.1, x.2.1.2, 0) V = rFin (bin B x.2.1.1 (S (3 * ys.length + 1)) (S (3 * ys.length + 2))) x.2.1.2 (lS S ys.length x ++ sts S ys) := by
        rw [a6', stp_bin (by rcases hx.2.1 with v | v | v <;> omega) (by rcases hx.2.1 with v | v | v <;> omega) (by rcases hx.2.1 with v | v | v <;> omega) (by rcases hx.2.1 with v | v | v <;> omega)]
      rw [e1'] at hF
      have hF' : FX h b Q d c E true K0 N0 S0 (exe B C m E mg ((x.2.1.1, x.2.1.2, 0) :: L) V) o e := hF
      refine c_endRow (t := true) (o := x.2.1.1) hS z3 z6 (by omega) k27 z4 kB hB2 hT1 (fun _ => ?_) wr (fun _ => wt) (fun K1 N1 v e1 e2 o1 o2 o3 o4 x1 => ?_) (fun K1 N1 v _ e1 o1 o2 e29 e30 x1 => ?_)
      · rcases hx.2.1 with v | v | v
        · exact absurd v ht0
        · exact Or.inl ⟨v, a1.2.1 v⟩
        · exact Or.inr ⟨v, a1.2.2.1 v⟩
      · obtain ⟨q0, ev⟩ := e1 rfl
        subst ev
        rw [rFin_0 q0] at est
        rw [exe_ok est] at hF'
        refine aw_lv (fun z hz => by simp only [List.mem_cons, List.not_mem_nil, or_false] at hz; rcases hz with rfl | rfl | rfl | rfl | rfl <;> exact xlk_mem rfl) (go K1 N1 _ o1 o2 o3 o4 x1 ?_ hF')
        intro u hu
        rcases List.mem_cons.mp hu with v | v
        · rw [v]; exact vWf_bin hB2 wt wr q0
        · exact a7 u (by rw [a6']; exact List.mem_cons_of_mem _ (List.mem_cons_of_mem _ v))
      · rw [rFin_1 e1] at est
        rw [exe_bad est] at hF'
        have cb := cd_bin (B := B) (op := x.2.1.1) (x := S (3 * ys.length + 1)) (y := S (3 * ys.length + 2))
        have F1 : fE K0 K1 := fE_t z1 ⟨fun r b0 b1 b2 b3 b4 => o1 r b0 b1 b2 b3 (by omega) (by omega), fun j hj => o2 j (by omega) (by omega)⟩
        refine x_doomR (a := a) (q := ys.length) hS (RT_E F1 hT) (RLx_0 (o2 22 (by decide) (by decide)) (o2 23 (by decide) (by decide)) (o2 24 (by decide) (by decide)) hL) ?_ (by rw [o2 32 (by decide) (by decide)]; exact z6) (by omega) (fun z hz => by simp only [List.mem_cons, List.not_mem_nil, or_false] at hz; rcases hz with rfl | rfl | rfl | rfl <;> exact xlk_mem rfl) (fun K2 ret r1 r2 r3 r4 r5 => ?_)
        · rw [e29]; intro w; exact e1 ((n_eq0 (by omega)).mp w)
        · refine hF'.2.2.2.1 rfl K2 N1 _ ret _ _ (fE_t F1 ⟨fun r b0 b1 b2 b3 b4 => r1 r b0 b1 b2 b3 b4, fun j hj => r5 j (by omega)⟩) (gS_t z2 (gS_up (by omega))) (RX_row r2 r3 r4 x1) rfl e1 (by omega) (by rw [r5 29 (by decide)]; exact e29) ?_ (by rw [r5 31 (by decide), o2 31 (by decide) (by decide)]; exact z5)
          rw [r5 30 (by decide), e30, a1.2.2.2 ht0]
/-- the end of a term -/
theorem x_C {K : Nat → Nat → Int32} {N : Nat → Nat} {S : Nat → Vl} {V : List Vl} {a e : Nat} {o : Bool} {y : Int32} {x : Lv} {ys : List Lv} {L : List St} {lv0 : List (Nat × Value)} (hS : RS h b) (hT : RT K0 C m d n lo) (h27 : K0 0 27 = if rc = true then 1 else 0) (hB : K0 0 0 = nI B) (hB2 : B ≤ 512) (hyl : ys.length ≤ 20) (hx : wl x) (hz : Zs rc K0 N0 S0 K N S ys.length) (hL : RLx K C m d lo a) (hr : rc = true → gM K d ys.length x ∧ K 16 ys.length = 1 ∧ K 17 ys.length = 0 ∧ gs K d ys ∧ V = S (3 * ys.length + 1) :: lS S ys.length x ++ sts S ys ∧ wv V) (hF : FX h b Q d c E rc K0 N0 S0 (exe B C m E mg (em x.1 ++ L) V) o e) (hlv : ∀ z ∈ ([(0, .ref b), (2, .int y), (3, .int 0), (4, .int 1), (5, .int 0)] : List (Nat × Value)), z ∈ lv0) (k : ∀ (K1 : Nat → Nat → Int32) (N1 : Nat → Nat) (S1 : Nat → Vl) (V1 : List Vl) (lv1 : List (Nat × Value)), Zs rc K0 N0 S0 K1 N1 S1 ys.length → RLx K1 C m d lo a → (rc = true → K1 15 ys.length = 1 ∧ K1 16 ys.length = 0 ∧ K1 17 ys.length = 0 ∧ K1 18 ys.length = 0 ∧ gs K1 d ys ∧ V1 = S1 (3 * ys.length) :: sts S1 ys ∧ wv V1) → FX h b Q d c E rc K0 N0 S0 (exe B C m E mg L V1) o e → (∀ z ∈ ([(0, .ref b), (2, .int y), (3, .int 0), (4, .int 1), (5, .int 0)] : List (Nat × Value)), z ∈ lv1) → aw g l mX11_expression 356 lv1 [] (xB h b K1) Q) : aw g l mX11_expression 352 lv0 [] (xB h b K) Q := by
  refine aw_lv hlv ?_
  obtain ⟨z1, z2, z3, z4, z5, z6, z7⟩ := id hz
  have k27 : K 0 27 = if rc = true then 1 else 0 := by rw [z1.2 27 (by decide)]; exact h27
  refine sX11_expression_352 rfl ?_
  refine tX11_expression_353 hS (Nat.le_of_ble_eq_true rfl) ?_
  cases rc with
  | false =>
    refine c_endTermS hS (Or.inl k27) ?_
    exact k K N S V _ hz hL (fun v => by cases v) (FX_f hF) (fun z hz => by simp only [List.mem_cons, List.not_mem_nil, or_false] at hz; rcases hz with rfl | rfl | rfl | rfl | rfl <;> exact xlk_mem rfl)
  | true =>
    obtain ⟨a2, a3, a4, a5, a6, a7⟩ := hr rfl
    obtain ⟨m1, m2, m3, m4, m5⟩ := a2
    have kB : K 0 0 = nI B := by rw [z1.2 0 (by decide)]; exact hB
    have wt : vWf (S (3 * ys.length + 1)) := a7 _ (by rw [a6]; exact List.mem_cons_self)
    have hs : x.1.1 = 0 ∧ K 15 ys.length = 0 ∧ K 18 ys.length = 0 ∨ x.1.1 = 13 ∧ K 15 ys.length = 0 ∧ K 18 ys.length = 1 ∨ x.1.1 = 11 ∧ K 15 ys.length = 1 ∧ K 18 ys.length = 0 ∧ K 19 ys.length = nI 43 ∨ x.1.1 = 12 ∧ K 15 ys.length = 1 ∧ K 18 ys.length = 0 ∧ K 19 ys.length = nI 45 := by
      rcases hx.1 with v | v | v | v
      · rw [if_pos (Or.inl v)] at m1; rw [if_neg (by omega)] at m2; exact Or.inl ⟨v, m1, m2⟩
      · rw [if_neg (by omega)] at m1; rw [if_neg (by omega)] at m2; exact Or.inr (Or.inr (Or.inl ⟨v, m1, m2, m3 v⟩))
      · rw [if_neg (by omega)] at m1; rw [if_neg (by omega)] at m2; exact Or.inr (Or.inr (Or.inr ⟨v, m1, m2, m4 v⟩))
      · rw [if_pos (Or.inr v)] at m1; rw [if_pos v] at m2; exact Or.inr (Or.inl ⟨v, m1, m2⟩)
    have eS : x.1.1 = 11 ∨ x.1.1 = 12 → V = S (3 * ys.length + 1) :: S (3 * ys.length) :: sts S ys := fun v => by
      have : lS S ys.length x = [S (3 * ys.length)] := by unfold lS; rw [if_neg (by omega)]
      rw [this] at a6; exact a6
    have ws : x.1.1 = 11 ∨ x.1.1 = 12 → vWf (S (3 * ys.length)) := fun v => a7 _ (by rw [eS v]; exact List.mem_cons_of_mem _ List.mem_cons_self)
    have e0 : x.1.1 = 0 ∨ x.1.1 = 13 → V = S (3 * ys.length + 1) :: sts S ys := fun v => by
      have : lS S ys.length x = [] := by unfold lS; rw [if_pos v]
      rw [this] at a6; exact a6
    have est : x.1.1 = 11 ∨ x.1.1 = 12 → stp B C m E mg (x.1.1, x.1.2, 0) V = rFin (bin B x.1.1 (S (3 * ys.length)) (S (3 * ys.length + 1))) x.1.2 (sts S ys) := fun v => by
      rw [eS v, stp_bin (by omega) (by omega) (by omega) (by omega)]
    have eem : x.1.1 ≠ 0 → em x.1 ++ L = (x.1.1, x.1.2, 0) :: L := fun v => by
      unfold em; rw [if_neg v, if_neg (by rcases hx.1 with u | u | u | u <;> omega)]; rfl
    refine c_endTerm (s := x.1.1) hS z3 z6 (by omega) k27 z4 kB hB2 hs wt ws (fun K1 N1 v u e1 e2 e3 o1 o2 o3 o4 o5 x1 => ?_) (fun K1 N1 v hor e1 o1 o2 e29 e30 x1 => ?_)
    · have o0 : K1 0 = K 0 := o1 0 (by decide) (by decide) (by decide) (by decide) (by decide) (by decide)
      have wF : vWf v ∧ FX h b Q d c E true K0 N0 S0 (exe B C m E mg L (v :: sts S ys)) o e := by
        rcases hx.1 with w | w | w | w
        · have := e1 w
          subst this
          have hem : em x.1 = [] := by unfold em; rw [if_pos w]
          rw [hem, List.nil_append, e0 (Or.inl w)] at hF
          exact ⟨wt, hF⟩
        · obtain ⟨q0, ev⟩ := e3 (Or.inl w)
          have e' := est (Or.inl w)
          rw [rFin_0 q0] at e'
          rw [eem (by omega), exe_ok e', ← ev] at hF
          rw [ev] at hF ⊢
          exact ⟨vWf_bin hB2 (ws (Or.inl w)) wt q0, hF⟩
        · obtain ⟨q0, ev⟩ := e3 (Or.inr w)
          have e' := est (Or.inr w)
          rw [rFin_0 q0] at e'
          rw [eem (by omega), exe_ok e', ← ev] at hF
          rw [ev] at hF ⊢
          exact ⟨vWf_bin hB2 (ws (Or.inr w)) wt q0, hF⟩
        · have := e2 w
          subst this
          rw [eem (by omega), w, e0 (Or.inr w), exe_ok stp_neg] at hF
          exact ⟨vWf_neg wt, hF⟩
      refine k K1 N1 _ _ _ ⟨fE_t z1 ⟨fun r b0 b1 b2 b3 b4 => o1 r b1 b2 b3 (by omega) (by omega) (by omega), fun j _ => by rw [o0]⟩, gS_t z2 (gS_t (gS_up (by omega)) (gS_up (by omega))), x1, by rw [o0]; exact z4, by rw [o0]; exact z5, by rw [o0]; exact z6, fun v => (by cases v)⟩ (RLx_0 (by rw [o0]) (by rw [o0]) (by rw [o0]) hL) (fun _ => ⟨o3, o4, ?_, o5, ?_, ?_, ?_⟩) wF.2 (fun z hz => by simp only [List.mem_cons, List.not_mem_nil, or_false] at hz; rcases hz with rfl | rfl | rfl | rfl | rfl <;> exact xlk_mem rfl)
      · rw [o1 17 (by decide) (by decide) (by decide) (by decide) (by decide) (by decide)]; exact a4
      · refine gs_c (fun r j b1 b2 b3 => ?_) a5
        obtain ⟨c1, c2, c3⟩ := o2 j (by omega)
        by_cases hr15 : r = 15
        · subst hr15; exact c1
        by_cases hr16 : r = 16
        · subst hr16; exact c2
        by_cases hr18 : r = 18
        · subst hr18; exact c3
        · rw [o1 r (by omega) (by omega) (by omega) hr15 hr16 hr18]
      · have hst := sts_c (S := S) (S' := va_up (va_up S (3 * ys.length + 1) u) (3 * ys.length) v) (ys := ys) (fun w hw => by rw [vup_n (by omega), vup_n (by omega)])
        rw [vup_s, hst]
      · intro u' hu
        rcases List.mem_cons.mp hu with w | w
        · rw [w]; exact wF.1
        · exact a7 u' (by rw [a6]; exact List.mem_append_right _ w)
    · have e' := est hor
      rw [rFin_1 e1] at e'
      rw [eem (by omega), exe_bad e'] at hF
      have cb := cd_bin (B := B) (op := x.1.1) (x := S (3 * ys.length)) (y := S (3 * ys.length + 1))
      have F1 : fE K0 K1 := fE_t z1 ⟨fun r b0 b1 b2 b3 b4 => o1 r b0 b1 b2 b3 (by omega) (by omega) (by omega), fun j hj => o2 j (by omega) (by omega)⟩
      refine x_doomT (a := a) (q := ys.length) hS (RT_E F1 hT) (RLx_0 (o2 22 (by decide) (by decide)) (o2 23 (by decide) (by decide)) (o2 24 (by decide) (by decide)) hL) ?_ (by rw [o2 32 (by decide) (by decide)]; exact z6) (by omega) (fun z hz => by simp only [List.mem_cons, List.not_mem_nil, or_false] at hz; rcases hz with rfl | rfl | rfl | rfl <;> exact xlk_mem rfl) (fun K2 ret r1 r2 r3 r4 r5 => ?_)
      · rw [e29]; intro w; exact e1 ((n_eq0 (by omega)).mp w)
      · refine hF.2.2.2.1 rfl K2 N1 _ ret _ _ (fE_t F1 ⟨fun r b0 b1 b2 b3 b4 => r1 r b0 b1 b2 b3 b4, fun j hj => r5 j (by omega)⟩) (gS_t z2 (gS_up (by omega))) (RX_row r2 r3 r4 x1) rfl e1 (by omega) (by rw [r5 29 (by decide)]; exact e29) ?_ (by rw [r5 31 (by decide), o2 31 (by decide) (by decide)]; exact z5)
        rw [r5 30 (by decide), e30, m5 (by omega) (by omega)]
end RefExpr2
