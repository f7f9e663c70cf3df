/-! ===== the reference's expression ===== -/
def fE (K K' : Nat → Nat → Int32) : Prop := (∀ r, r ≠ 0 → r ≠ 1 → r ≠ 2 → r ≠ 3 → r < 15 ∨ 23 < r → K' r = K r) ∧ ∀ j, j < 22 ∨ j = 27 ∨ j = 28 ∨ 32 < j → K' 0 j = K 0 j
def gS (S S' : Nat → Vl) : Prop := ∀ w, 64 < w → w ≠ 66 → S' w = S w
theorem fE_t {K K1 K2 : Nat → Nat → Int32} (h : fE K K1) (h' : fE K1 K2) : fE K K2 := ⟨fun r a b c d e => (h'.1 r a b c d e).trans (h.1 r a b c d e), fun j hj => (h'.2 j hj).trans (h.2 j hj)⟩
theorem fE_R {K K' : Nat → Nat → Int32} (h : fR K K') : fE K K' := ⟨fun r a b c d _ => h.1 r a b c d, fun j hj => h.2 j (by omega)⟩
theorem fE_o {K K' : Nat → Nat → Int32} (h : ro K K') : fE K K' := fE_R (fR_ro h)
theorem fE_r (K : Nat → Nat → Int32) : fE K K := ⟨fun _ _ _ _ _ _ => rfl, fun _ _ => rfl⟩
theorem fE_u {K : Nat → Nat → Int32} {r i : Nat} {v : Int32} (h : 15 ≤ r) (h2 : r ≤ 23) : fE K (xup2 K r i v) := ⟨fun q a _ _ _ e => xup2_r (by omega), fun j _ => by rw [xup2_r (by omega)]⟩
theorem RT_E {K K' : Nat → Nat → Int32} {C : Nat → Nat} {m d n lo : Nat} (o : fE K K') (hT : RT K C m d n lo) : RT K' C m d n lo :=
  RT_c (o.2 20 (by decide)) (o.2 21 (by decide)) (o.1 4 (by decide) (by decide) (by decide) (by decide) (by decide)) (o.1 11 (by decide) (by decide) (by decide) (by decide) (by decide)) hT
theorem gS_t {S S1 S2 : Nat → Vl} (h : gS S S1) (h' : gS S1 S2) : gS S S2 := fun w a c => (h' w a c).trans (h w a c)
theorem gS_f {S S' : Nat → Vl} (h : fS S S') : gS S S' := fun w a c => h w (by omega) c
theorem gS_up {S : Nat → Vl} {w : Nat} {v : Vl} (hw : w < 65) : gS S (va_up S w v) := fun u a _ => vup_n (by omega)
theorem gS_r (S : Nat → Vl) : gS S S := fun _ _ _ => rfl
def lR (S : Nat → Vl) (q : Nat) (x : Lv) : List Vl := if x.2.2.1 = 0 then [] else [S (3 * q + 2)]
def lT (S : Nat → Vl) (q : Nat) (x : Lv) : List Vl := if x.2.1.1 = 0 then [] else [S (3 * q + 1)]
def lS (S : Nat → Vl) (q : Nat) (x : Lv) : List Vl := if x.1.1 = 0 ∨ x.1.1 = 13 then [] else [S (3 * q)]
def sts (S : Nat → Vl) : List Lv → List Vl
  | [] => []
  | y :: ys => (lR S ys.length y ++ (lT S ys.length y ++ lS S ys.length y)) ++ sts S ys
def gT (K : Nat → Nat → Int32) (d q : Nat) (x : Lv) : Prop := (K 16 q = if x.2.1.1 = 0 then 0 else 1) ∧ (x.2.1.1 = 14 → K 21 q = nI 42) ∧ (x.2.1.1 = 15 → K 21 q = nI 47) ∧ (x.2.1.1 ≠ 0 → K 22 q = nI (x.2.1.2 - d))
def gM (K : Nat → Nat → Int32) (d q : Nat) (x : Lv) : Prop := (K 15 q = if x.1.1 = 0 ∨ x.1.1 = 13 then 0 else 1) ∧ (K 18 q = if x.1.1 = 13 then 1 else 0) ∧ (x.1.1 = 11 → K 19 q = nI 43) ∧ (x.1.1 = 12 → K 19 q = nI 45) ∧ (x.1.1 ≠ 0 → x.1.1 ≠ 13 → K 20 q = nI (x.1.2 - d))
def gR (K : Nat → Nat → Int32) (q : Nat) (x : Lv) : Prop := K 17 q = if x.2.2.1 = 0 then 0 else 1
def gP (K : Nat → Nat → Int32) (d q : Nat) (x : Lv) : Prop := x.2.2.1 ≠ 0 → K 23 q = nI (x.2.2.2 - d)
def gs (K : Nat → Nat → Int32) (d : Nat) : List Lv → Prop
  | [] => True
  | y :: ys => (gT K d ys.length y ∧ gM K d ys.length y ∧ gR K ys.length y ∧ gP K d ys.length y) ∧ gs K d ys
theorem gT_c {K K' : Nat → Nat → Int32} {d q : Nat} {x : Lv} (e16 : K' 16 q = K 16 q) (e21 : K' 21 q = K 21 q) (e22 : K' 22 q = K 22 q) (h : gT K d q x) : gT K' d q x := by
  unfold gT at h ⊢; rw [e16, e21, e22]; exact h
theorem gM_c {K K' : Nat → Nat → Int32} {d q : Nat} {x : Lv} (e15 : K' 15 q = K 15 q) (e18 : K' 18 q = K 18 q) (e19 : K' 19 q = K 19 q) (e20 : K' 20 q = K 20 q) (h : gM K d q x) : gM K' d q x := by
  unfold gM at h ⊢; rw [e15, e18, e19, e20]; exact h
theorem gs_c {K K' : Nat → Nat → Int32} {d : Nat} : ∀ {ys : List Lv}, (∀ r j, 15 ≤ r → r ≤ 23 → j < ys.length → K' r j = K r j) → gs K d ys → gs K' d ys
  | [], _, _ => trivial
  | y :: ys, h, ⟨⟨h1, h2, h3, h4⟩, h5⟩ => by
    have hl : ys.length < (y :: ys).length := Nat.lt_succ_self _
    refine ⟨⟨gT_c (h 16 _ (by decide) (by decide) hl) (h 21 _ (by decide) (by decide) hl) (h 22 _ (by decide) (by decide) hl) h1, gM_c (h 15 _ (by decide) (by decide) hl) (h 18 _ (by decide) (by decide) hl) (h 19 _ (by decide) (by decide) hl) (h 20 _ (by decide) (by decide) hl) h2, ?_, ?_⟩, gs_c (fun r j a c e => h r j a c (Nat.lt_succ_of_lt e)) h5⟩
    · unfold gR at h3 ⊢; rw [h 17 _ (by decide) (by decide) hl]; exact h3
    · unfold gP at h4 ⊢; rw [h 23 _ (by decide) (by decide) hl]; exact h4
theorem lR_c {S S' : Nat → Vl} {q : Nat} {x : Lv} (h : S' (3 * q + 2) = S (3 * q + 2)) : lR S' q x = lR S q x := by unfold lR; rw [h]
theorem lT_c {S S' : Nat → Vl} {q : Nat} {x : Lv} (h : S' (3 * q + 1) = S (3 * q + 1)) : lT S' q x = lT S q x := by unfold lT; rw [h]
theorem lS_c {S S' : Nat → Vl} {q : Nat} {x : Lv} (h : S' (3 * q) = S (3 * q)) : lS S' q x = lS S q x := by unfold lS; rw [h]
theorem sts_c {S S' : Nat → Vl} : ∀ {ys : List Lv}, (∀ w, w < 3 * ys.length → S' w = S w) → sts S' ys = sts S ys
  | [], _ => rfl
  | y :: ys, h => by
    have hl : (y :: ys).length = ys.length + 1 := rfl
    show (lR S' ys.length y ++ (lT S' ys.length y ++ lS S' ys.length y)) ++ sts S' ys = _
    rw [lR_c (h _ (by omega)), lT_c (h _ (by omega)), lS_c (h _ (by omega)), sts_c (fun w hw => h w (by omega))]
    rfl
def wv (V : List Vl) : Prop := ∀ v ∈ V, vWf v
/-- what is to be shown at the end of expression -/
def FX (h : xH) (b : Nat) (Q : Option Value → xH → Prop) (d c : Nat) (E : Nat → Option (Nat × Vl)) (rc : Bool) (K0 : Nat → Nat → Int32) (N0 : Nat → Nat) (S0 : Nat → Vl) (R : Rs) (o : Bool) (e : Nat) : Prop :=
  (rc = false → o = true → ∀ K', fE K0 K' → RX K' N0 S0 → K' 0 29 = nI 0 → K' 0 31 = -1 → Q (some (.int (nI (e - d)))) (xB h b K')) ∧
  (rc = false → o = false → ∀ K' ret, fE K0 K' → RX K' N0 S0 → K' 0 29 = nI 1 → K' 0 30 = nI (e - d) → Q (some (.int ret)) (xB h b K')) ∧
  (rc = true → ∀ K' N' S' ret, fE K0 K' → gS S0 S' → RX K' N' S' → R = rOk [S' 0] → vWf (S' 0) → K' 0 29 = nI 0 → K' 0 31 = -1 → Q (some (.int ret)) (xB h b K')) ∧
  (rc = true → ∀ K' N' S' ret f p, fE K0 K' → gS S0 S' → RX K' N' S' → R = rBad f p → f ≠ 0 → f < 100 → K' 0 29 = nI f → K' 0 30 = nI (p - d) → K' 0 31 = -1 → Q (some (.int ret)) (xB h b K')) ∧
  (rc = true → ∀ K' N' S' ret j, fE K0 K' → gS S0 S' → RX K' N' S' → R = rNeed j → j < c → K' 0 29 = nI 0 → K' 0 31 = nI j → E j = none → Q (some (.int ret)) (xB h b K'))
/-- the state ahead of each step -/
def Zs (rc : Bool) (K0 : Nat → Nat → Int32) (N0 : Nat → Nat) (S0 : Nat → Vl) (K : Nat → Nat → Int32) (N : Nat → Nat) (S : Nat → Vl) (q : Nat) : Prop := fE K0 K ∧ gS S0 S ∧ RX K N S ∧ K 0 29 = nI 0 ∧ K 0 31 = -1 ∧ K 0 32 = nI q ∧ (rc = false → N = N0 ∧ S = S0)
theorem Zs_o {rc : Bool} {K0 : Nat → Nat → Int32} {N0 : Nat → Nat} {S0 : Nat → Vl} {K K' : Nat → Nat → Int32} {N : Nat → Nat} {S : Nat → Vl} {q : Nat} (o : ro K K') (z : Zs rc K0 N0 S0 K N S q) : Zs rc K0 N0 S0 K' N S q := by
  obtain ⟨z1, z2, z3, z4, z5, z6, z7⟩ := z
  exact ⟨fE_t z1 (fE_o o), z2, RX_ro o z3, by rw [o.2 29 (by decide) (by decide) (by decide)]; exact z4, by rw [o.2 31 (by decide) (by decide) (by decide)]; exact z5, by rw [o.2 32 (by decide) (by decide) (by decide)]; exact z6, z7⟩
theorem Zs_u {rc : Bool} {K0 : Nat → Nat → Int32} {N0 : Nat → Nat} {S0 : Nat → Vl} {K : Nat → Nat → Int32} {N : Nat → Nat} {S : Nat → Vl} {q r i : Nat} {v : Int32} (h : 15 ≤ r) (h2 : r ≤ 23) (z : Zs rc K0 N0 S0 K N S q) : Zs rc K0 N0 S0 (xup2 K r i v) N S q := by
  obtain ⟨z1, z2, z3, z4, z5, z6, z7⟩ := z
  exact ⟨fE_t z1 (fE_u h h2), z2, RX_up (by omega) (by omega) (by omega) z3, by rw [xup2_r (by omega)]; exact z4, by rw [xup2_r (by omega)]; exact z5, by rw [xup2_r (by omega)]; exact z6, z7⟩
theorem RLx_u {K : Nat → Nat → Int32} {C : Nat → Nat} {m d lo a r i : Nat} {v : Int32} (h : r ≠ 0) (z : RLx K C m d lo a) : RLx (xup2 K r i v) C m d lo a := by
  unfold RLx at z ⊢; rw [xup2_r (by omega)]; exact z
theorem RLx_0 {K K' : Nat → Nat → Int32} {C : Nat → Nat} {m d lo a : Nat} (h22 : K' 0 22 = K 0 22) (h23 : K' 0 23 = K 0 23) (h24 : K' 0 24 = K 0 24) (z : RLx K C m d lo a) : RLx K' C m d lo a := by
  unfold RLx at z ⊢; rw [h22, h23, h24]; exact z
section RefExpr
variable {g : xG} {l : Launch} {h : xH} {b : Nat} {Q : Option Value → xH → Prop} {C : Nat → Nat} {m d n lo B c : Nat} {E : Nat → Option (Nat × Vl)} {mg : Nat → Nat → Option Nat × Option Nat} {rc : Bool} {K0 : Nat → Nat → Int32} {N0 : Nat → Nat} {S0 : Nat → Vl}
theorem FX_f {R R' : Rs} {o : Bool} {e : Nat} (hF : FX h b Q d c E false K0 N0 S0 R o e) : FX h b Q d c E false K0 N0 S0 R' o e := ⟨hF.1, hF.2.1, fun v => (by cases v), fun v => (by cases v), fun v => (by cases v)⟩
/-- a FAULT is known: nothing more happens -/
theorem x_doom {K : Nat → Nat → Int32} {y t u : Int32} {lv0 : List (Nat × Value)} (hS : RS h b) (hw : K 0 29 ≠ 0) (hlv : ∀ z ∈ ([(0, .ref b), (2, .int y), (4, .int u), (5, .int t)] : List (Nat × Value)), z ∈ lv0) (k : Q (some (.int y)) (xB h b K)) : aw g l mX11_expression 196 lv0 [] (xB h b K) Q := by
  refine aw_lv hlv ?_
  have r498 : aw g l mX11_expression 498 [(0, .ref b), (2, .int y), (4, .int u), (5, .int t)] [] (xB h b K) Q := by
    refine sX11_expression_498 ?_
    refine sX11_expression_26 rfl ?_
    have r501 : aw g l mX11_expression 501 [(0, .ref b), (2, .int y), (4, .int u), (5, .int t)] [] (xB h b K) Q := by
      refine sX11_expression_501 rfl ?_
      exact sX11_expression_502 k
    refine sX11_expression_28 (fun _ => r501) (fun _ => ?_)
    refine sX11_expression_31 rfl ?_
    refine tX11_expression_32 hS ?_
    exact sX11_expression_35 (fun _ => r501) (fun z => absurd z hw)
  refine sX11_expression_196 rfl ?_
  refine sX11_expression_198 (fun _ => r498) (fun _ => ?_)
  refine sX11_expression_201 rfl ?_
  refine tX11_expression_202 hS ?_
  exact sX11_expression_205 (fun _ => r498) (fun z => absurd z hw)
theorem x_doomT {K : Nat → Nat → Int32} {a q : Nat} {y : Int32} {lv0 : List (Nat × Value)} (hS : RS h b) (hT : RT K C m d n lo) (hL : RLx K C m d lo a) (hw : K 0 29 ≠ 0) (h32 : K 0 32 = nI q) (hq : q < 21) (hlv : ∀ z ∈ ([(0, .ref b), (2, .int y), (4, .int 1), (5, .int 0)] : List (Nat × Value)), z ∈ lv0) (k : ∀ K' ret, (∀ r, r ≠ 0 → r ≠ 1 → r ≠ 2 → r ≠ 3 → r < 15 ∨ 23 < r → K' r = K r) → K' 1 = K 1 → K' 2 = K 2 → K' 3 = K 3 → (∀ j, j ≠ 32 → K' 0 j = K 0 j) → Q (some (.int ret)) (xB h b K')) : aw g l mX11_expression 356 lv0 [] (xB h b K) Q := by
  refine aw_lv hlv ?_
  have hm := hT.1.1
  obtain ⟨l1, l2, l3, l4, l5⟩ := id hL
  have fin : ∀ lv1 : List (Nat × Value), (∀ z ∈ ([(0, .ref b), (2, .int y), (4, .int 1), (5, .int 0)] : List (Nat × Value)), z ∈ lv1) → aw g l mX11_expression 374 lv1 [] (xB h b K) Q := fun lv1 hlv1 => by
    refine aw_lv hlv1 ?_
    refine sX11_expression_374 rfl ?_
    refine tX11_expression_375 hS ?_
    refine sX11_expression_378 rfl ?_
    refine tX11_expression_379 hS ?_
    rw [h32]
    refine sX11_expression_382 rfl ?_
    refine sX11_expression_383 rfl ?_
    refine tX11_expression_384 hS ?_
    rw [l3]
    refine tX11_expression_387 hS (Nat.le_of_ble_eq_true rfl) ?_
    refine c_at hS hT (by omega) (by omega) ?_
    refine tX11_expression_390 hS (by decide) (by decide) rfl (by simp only [rl]; omega) ?_
    refine sX11_expression_391 rfl ?_
    refine tX11_expression_392 hS ?_
    refine sX11_expression_395 rfl ?_
    refine tX11_expression_396 hS ?_
    rw [xup2_r (by decide), h32]
    refine sX11_expression_399 rfl ?_
    refine tX11_expression_400 hS ?_
    rw [xup2_r (by decide), l3]
    refine tX11_expression_403 hS (by decide) (by decide) rfl (by simp only [rl]; omega) ?_
    refine sX11_expression_404 rfl ?_
    refine tX11_expression_405 hS ?_
    rw [xup2_r (by decide), xup2_r (by decide), l4]
    refine sX11_expression_408 ?_
    refine sX11_expression_409 ?_
    refine x_doom hS (by rw [xup2_r (by decide), xup2_r (by decide)]; exact hw) (fun z hz => by simp only [List.mem_cons, List.not_mem_nil, or_false] at hz; rcases hz with rfl | rfl | rfl | rfl <;> exact xlk_mem rfl) (k _ _ (fun r a0 a1 a2 a3 a4 => by rw [xup2_r (by omega), xup2_r (by omega)]) ?_ ?_ ?_ (fun j _ => by rw [xup2_r (by decide), xup2_r (by decide)]))
    · rw [xup2_r (by decide), xup2_r (by decide)]
    · rw [xup2_r (by decide), xup2_r (by decide)]
    · rw [xup2_r (by decide), xup2_r (by decide)]
  refine sX11_expression_356 rfl ?_
  refine nX11_expression_357 ?_
  refine tX11_expression_359 hS (Nat.le_of_ble_eq_true rfl) ?_
  refine c_isSign11 hS hT hL (by decide) (by decide) (fun z => ?_) (fun z1 => ?_)
  · exact sX11_expression_362 (fun _ => fin _ (fun z hz => by simp only [List.mem_cons, List.not_mem_nil, or_false] at hz; rcases hz with rfl | rfl | rfl | rfl <;> exact xlk_mem rfl)) (fun y => absurd y (by decide))
  refine sX11_expression_362 (fun y => absurd rfl y) (fun _ => ?_)
  refine sX11_expression_365 rfl ?_
  refine nX11_expression_366 ?_
  refine tX11_expression_368 hS (Nat.le_of_ble_eq_true rfl) ?_
  refine c_isSign11 hS hT hL (by decide) (by decide) (fun z => ?_) (fun z2 => ?_)
  · exact sX11_expression_371 (fun y => absurd y (by decide)) (fun _ => fin _ (fun z hz => by simp only [List.mem_cons, List.not_mem_nil, or_false] at hz; rcases hz with rfl | rfl | rfl | rfl <;> exact xlk_mem rfl))
  refine sX11_expression_371 (fun _ => ?_) (fun y => absurd rfl y)
  refine sX11_expression_412 rfl ?_
  refine tX11_expression_413 hS ?_
  rw [h32]
  refine nX11_expression_416 (by omega) (fun z => ?_) (fun z => ?_)
  · refine sX11_expression_430 rfl ?_
    refine nX11_expression_431 ?_
    refine tX11_expression_433 hS (Nat.le_of_ble_eq_true rfl) ?_
    refine c_isSign11 hS hT hL (by decide) (by decide) (fun v => ?_) (fun v => ?_)
    · refine sX11_expression_436 (fun _ => ?_) (fun y => absurd y (by decide))
      have go : aw g l mX11_expression 477 [(0, .ref b), (2, .int y), (4, .int 1), (5, .int 0)] [] (xB h b K) Q := by
        refine sX11_expression_477 rfl ?_
        refine sX11_expression_478 rfl ?_
        refine tX11_expression_479 hS ?_
        rw [h32]
        refine nX11_expression_482 ?_
        refine nX11_expression_483 (by omega) ?_
        refine tX11_expression_484 hS ?_
        refine sX11_expression_487 rfl ?_
        refine tX11_expression_488 hS ?_
        rw [xup2_n (by decide), l4]
        refine sX11_expression_491 ?_
        refine sX11_expression_492 ?_
        refine sX11_expression_493 ?_
        refine sX11_expression_495 ?_
        refine x_doom hS (by rw [xup2_n (by decide)]; exact hw) (fun z hz => by simp only [List.mem_cons, List.not_mem_nil, or_false] at hz; rcases hz with rfl | rfl | rfl | rfl <;> exact xlk_mem rfl) (k _ _ (fun r a0 _ _ _ _ => xup2_r a0) (xup2_r (by decide)) (xup2_r (by decide)) (xup2_r (by decide)) (fun j hj => xup2_n hj))
      refine sX11_expression_451 rfl ?_
      refine tX11_expression_452 hS ?_
      refine sX11_expression_455 (fun _ => go) (fun _ => ?_)
      refine sX11_expression_458 rfl ?_
      refine tX11_expression_459 hS ?_
      exact sX11_expression_462 (fun _ => go) (fun y => absurd y hw)
    · refine sX11_expression_436 (fun y => absurd rfl y) (fun _ => ?_)
      refine sX11_expression_439 rfl ?_
      refine nX11_expression_440 ?_
      refine sX11_expression_441 rfl ?_
      refine tX11_expression_442 hS ?_
      rw [l3]
      refine tX11_expression_445 hS (Nat.le_of_ble_eq_true rfl) ?_
      refine c_failsW hS (by decide) hw ?_
      refine sX11_expression_448 rfl ?_
      refine sX11_expression_449 rfl ?_
      exact sX11_expression_450 (k K _ (fun _ _ _ _ _ _ => rfl) rfl rfl rfl (fun _ _ => rfl))
  · refine sX11_expression_419 ?_
    refine sX11_expression_420 ?_
    refine sX11_expression_422 rfl ?_
    refine tX11_expression_423 hS ?_
    rw [l3]
    refine sX11_expression_426 ?_
    refine sX11_expression_427 ?_
    exact x_doom hS hw (fun z hz => by simp only [List.mem_cons, List.not_mem_nil, or_false] at hz; rcases hz with rfl | rfl | rfl | rfl <;> exact xlk_mem rfl) (k K _ (fun _ _ _ _ _ _ => rfl) rfl rfl rfl (fun _ _ => rfl))
theorem x_doomR {K : Nat → Nat → Int32} {a q : Nat} {y : Int32} {lv0 : List (Nat × Value)} (hS : RS h b) (hT : RT K C m d n lo) (hL : RLx K C m d lo a) (hw : K 0 29 ≠ 0) (h32 : K 0 32 = nI q) (hq : q < 21) (hlv : ∀ z ∈ ([(0, .ref b), (2, .int y), (4, .int 1), (5, .int 0)] : List (Nat × Value)), z ∈ lv0) (k : ∀ K' ret, (∀ r, r ≠ 0 → r ≠ 1 → r ≠ 2 → r ≠ 3 → r < 15 ∨ 23 < r → K' r = K r) → K' 1 = K 1 → K' 2 = K 2 → K' 3 = K 3 → (∀ j, j ≠ 32 → K' 0 j = K 0 j) → Q (some (.int ret)) (xB h b K')) : aw g l mX11_expression 296 lv0 [] (xB h b K) Q := by
  refine aw_lv hlv ?_
  have hm := hT.1.1
  obtain ⟨l1, l2, l3, l4, l5⟩ := id hL
  have fin : ∀ lv1 : List (Nat × Value), (∀ z ∈ ([(0, .ref b), (2, .int y), (4, .int 1), (5, .int 0)] : List (Nat × Value)), z ∈ lv1) → aw g l mX11_expression 314 lv1 [] (xB h b K) Q := fun lv1 hlv1 => by
    refine aw_lv hlv1 ?_
    refine sX11_expression_314 rfl ?_
    refine tX11_expression_315 hS ?_
    refine sX11_expression_318 rfl ?_
    refine tX11_expression_319 hS ?_
    rw [h32]
    refine sX11_expression_322 rfl ?_
    refine sX11_expression_323 rfl ?_
    refine tX11_expression_324 hS ?_
    rw [l3]
    refine tX11_expression_327 hS (Nat.le_of_ble_eq_true rfl) ?_
    refine c_at hS hT (by omega) (by omega) ?_
    refine tX11_expression_330 hS (by decide) (by decide) rfl (by simp only [rl]; omega) ?_
    refine sX11_expression_331 rfl ?_
    refine tX11_expression_332 hS ?_
    refine sX11_expression_335 rfl ?_
    refine tX11_expression_336 hS ?_
    rw [xup2_r (by decide), h32]
    refine sX11_expression_339 rfl ?_
    refine tX11_expression_340 hS ?_
    rw [xup2_r (by decide), l3]
    refine tX11_expression_343 hS (by decide) (by decide) rfl (by simp only [rl]; omega) ?_
    refine sX11_expression_344 rfl ?_
    refine tX11_expression_345 hS ?_
    rw [xup2_r (by decide), xup2_r (by decide), l4]
    refine sX11_expression_348 ?_
    refine sX11_expression_349 ?_
    refine x_doom hS (by rw [xup2_r (by decide), xup2_r (by decide)]; exact hw) (fun z hz => by simp only [List.mem_cons, List.not_mem_nil, or_false] at hz; rcases hz with rfl | rfl | rfl | rfl <;> exact xlk_mem rfl) (k _ _ (fun r a0 a1 a2 a3 a4 => by rw [xup2_r (by omega), xup2_r (by omega)]) ?_ ?_ ?_ (fun j _ => by rw [xup2_r (by decide), xup2_r (by decide)]))
    · rw [xup2_r (by decide), xup2_r (by decide)]
    · rw [xup2_r (by decide), xup2_r (by decide)]
    · rw [xup2_r (by decide), xup2_r (by decide)]
  refine sX11_expression_296 rfl ?_
  refine nX11_expression_297 ?_
  refine tX11_expression_299 hS (Nat.le_of_ble_eq_true rfl) ?_
  refine c_isSign11 hS hT hL (by decide) (by decide) (fun z => ?_) (fun z1 => ?_)
  · exact sX11_expression_302 (fun _ => fin _ (fun z hz => by simp only [List.mem_cons, List.not_mem_nil, or_false] at hz; rcases hz with rfl | rfl | rfl | rfl <;> exact xlk_mem rfl)) (fun y => absurd y (by decide))
  refine sX11_expression_302 (fun y => absurd rfl y) (fun _ => ?_)
  refine sX11_expression_305 rfl ?_
  refine nX11_expression_306 ?_
  refine tX11_expression_308 hS (Nat.le_of_ble_eq_true rfl) ?_
  refine c_isSign11 hS hT hL (by decide) (by decide) (fun z => ?_) (fun z2 => ?_)
  · exact sX11_expression_311 (fun y => absurd y (by decide)) (fun _ => fin _ (fun z hz => by simp only [List.mem_cons, List.not_mem_nil, or_false] at hz; rcases hz with rfl | rfl | rfl | rfl <;> exact xlk_mem rfl))
  refine sX11_expression_311 (fun _ => ?_) (fun y => absurd rfl y)
  refine sX11_expression_352 rfl ?_
  refine tX11_expression_353 hS (Nat.le_of_ble_eq_true rfl) ?_
  refine c_endTermS hS (Or.inr hw) ?_
  exact x_doomT hS hT hL hw h32 hq (fun z hz => by simp only [List.mem_cons, List.not_mem_nil, or_false] at hz; rcases hz with rfl | rfl | rfl | rfl <;> exact xlk_mem rfl) k
/-- the end of a POWER -/
theorem x_A {K : Nat → Nat → Int32} {N : Nat → Nat} {S : Nat → Vl} {V : List Vl} {a e : Nat} {o : Bool} {y : Int32} {x : Lv} {ys : List Lv} {L : List St} {lv0 : List (Nat × Value)} (hS : RS h b) (h27 : K0 0 27 = if rc = true then 1 else 0) (hB : K0 0 0 = nI B) (hB2 : B ≤ 512) (hyl : ys.length ≤ 20) (hx : wl x) (hz : Zs rc K0 N0 S0 K N S ys.length) (hL : RLx K C m d lo a) (hr : rc = true → gT K d ys.length x ∧ gM K d ys.length x ∧ gR K ys.length x ∧ gP K d ys.length x ∧ gs K d ys ∧ V = S 63 :: (lR S ys.length x ++ (lT S ys.length x ++ lS S ys.length x)) ++ sts S ys ∧ wv V) (hF : FX h b Q d c E rc K0 N0 S0 (exe B C m E mg (em x.2.2 ++ L) V) o e) (hlv : ∀ z ∈ ([(0, .ref b), (2, .int y), (3, .int 0), (4, .int 1)] : List (Nat × Value)), z ∈ lv0) (k : ∀ (K1 : Nat → Nat → Int32) (N1 : Nat → Nat) (S1 : Nat → Vl) (V1 : List Vl) (lv1 : List (Nat × Value)), Zs rc K0 N0 S0 K1 N1 S1 ys.length → RLx K1 C m d lo a → (rc = true → gT K1 d ys.length x ∧ gM K1 d ys.length x ∧ K1 17 ys.length = 1 ∧ gs K1 d ys ∧ V1 = S1 (3 * ys.length + 2) :: (lT S1 ys.length x ++ lS S1 ys.length x) ++ sts S1 ys ∧ wv V1) → FX h b Q d c E rc K0 N0 S0 (exe B C m E mg L V1) o e → (∀ z ∈ ([(0, .ref b), (2, .int y), (3, .int 0), (4, .int 1), (5, .int 0)] : List (Nat × Value)), z ∈ lv1) → aw g l mX11_expression 264 lv1 [] (xB h b K1) Q) : aw g l mX11_expression 248 lv0 [] (xB h b K) Q := by
  refine aw_lv hlv ?_
  obtain ⟨z1, z2, z3, z4, z5, z6, z7⟩ := id hz
  have k27 : K 0 27 = if rc = true then 1 else 0 := by rw [z1.2 27 (by decide)]; exact h27
  refine sX11_expression_248 rfl ?_
  refine tX11_expression_249 hS (Nat.le_of_ble_eq_true rfl) ?_
  cases rc with
  | false =>
    refine c_endPowerS hS k27 ?_
    refine sX11_expression_252 ?_
    refine sX11_expression_253 ?_
    refine sX11_expression_255 rfl ?_
    refine tX11_expression_256 hS ?_
    rw [z4]
    refine nX11_expression_259 (by decide) (fun _ => ?_) (fun v => absurd rfl v)
    exact k K N S V _ hz hL (fun v => by cases v) (FX_f hF) (fun z hz => by simp only [List.mem_cons, List.not_mem_nil, or_false] at hz; rcases hz with rfl | rfl | rfl | rfl | rfl <;> exact xlk_mem rfl)
  | true =>
    obtain ⟨a1, a2, a3, a4, a5, a6, a7⟩ := hr rfl
    have kB : K 0 0 = nI B := by rw [z1.2 0 (by decide)]; exact hB
    have w63 : vWf (S 63) := a7 _ (by rw [a6]; exact List.mem_cons_self)
    by_cases hr0 : x.2.2.1 = 0
    · have hR : K 17 ys.length = if false = true then 1 else 0 := by unfold gR at a3; rw [if_pos hr0] at a3; exact a3
      refine c_endPower (r := false) hS z3 z6 (by omega) k27 z4 kB hB2 hR w63 (fun v => by cases v) (fun K1 N1 v e1 e2 o1 o2 o3 x1 => ?_) (fun K1 N1 v e1 => by cases e1)
      have ev := e2 rfl
      subst ev
      have o0 : K1 0 = K 0 := o1 0 (by decide) (by decide) (by decide) (by decide)
      refine sX11_expression_252 ?_
      refine sX11_expression_253 ?_
      refine sX11_expression_255 rfl ?_
      refine tX11_expression_256 hS ?_
      rw [o0, z4]
      refine nX11_expression_259 (by decide) (fun _ => ?_) (fun v => absurd rfl v)
      have eR : lR S ys.length x = [] := by unfold lR; rw [if_pos hr0]
      have e1' : em x.2.2 = [] := by unfold em; rw [if_pos hr0]
      rw [e1', List.nil_append] at hF
      rw [eR, List.nil_append] at a6
      refine k K1 N1 _ V _ ⟨fE_t z1 ⟨fun r b0 b1 b2 b3 b4 => o1 r b1 b2 b3 (by omega), fun j _ => by rw [o0]⟩, gS_t z2 (gS_up (by omega)), x1, by rw [o0]; exact z4, by rw [o0]; exact z5, by rw [o0]; exact z6, fun v => (by cases v)⟩ (RLx_0 (by rw [o0]) (by rw [o0]) (by rw [o0]) hL) (fun _ => ⟨?_, ?_, o3, ?_, ?_, a7⟩) hF (fun z hz => by simp only [List.mem_cons, List.not_mem_nil, or_false] at hz; rcases hz with rfl | rfl | rfl | rfl | rfl <;> exact xlk_mem rfl)
      · exact gT_c (by rw [o1 16 (by decide) (by decide) (by decide) (by decide)]) (by rw [o1 21 (by decide) (by decide) (by decide) (by decide)]) (by rw [o1 22 (by decide) (by decide) (by decide) (by decide)]) a1
      · exact gM_c (by rw [o1 15 (by decide) (by decide) (by decide) (by decide)]) (by rw [o1 18 (by decide) (by decide) (by decide) (by decide)]) (by rw [o1 19 (by decide) (by decide) (by decide) (by decide)]) (by rw [o1 20 (by decide) (by decide) (by decide) (by decide)]) a2
      · refine gs_c (fun r j b1 b2 b3 => ?_) a5
        by_cases hr17 : r = 17
        · subst hr17; exact o2 j (by omega)
        · rw [o1 r (by omega) (by omega) (by omega) hr17]
      · rw [vup_s, lT_c (vup_n (by omega)), lS_c (vup_n (by omega)), sts_c (fun w hw => vup_n (by omega))]
        exact a6
    · have hR : K 17 ys.length = if true = true then 1 else 0 := by unfold gR at a3; rw [if_neg hr0] at a3; exact a3
      have eR : lR S ys.length x = [S (3 * ys.length + 2)] := by unfold lR; rw [if_neg hr0]
      have r16 : x.2.2.1 = 16 := by rcases hx.2.2 with v | v; exact absurd v hr0; exact v
      have e1' : em x.2.2 = [(14, x.2.2.2, 0)] := by unfold em; rw [if_neg hr0, if_pos r16]
      rw [eR] at a6
      have a6' : V = S 63 :: S (3 * ys.length + 2) :: ((lT S ys.length x ++ lS S ys.length x) ++ sts S ys) := a6
      have wr : vWf (S (3 * ys.length + 2)) := a7 _ (by rw [a6']; exact List.mem_cons_of_mem _ List.mem_cons_self)
      have est : stp B C m E mg (14, x.2.2.2, 0) V = rFin (vMul B (S (3 * ys.length + 2)) (S 63)) x.2.2.2 ((lT S ys.length x ++ lS S ys.length x) ++ sts S ys) := by
        rw [a6', stp_bin (by decide) (by decide) (by decide) (by decide)]; rfl
      rw [e1'] at hF
      have hF' : FX h b Q d c E true K0 N0 S0 (exe B C m E mg ((14, x.2.2.2, 0) :: L) V) o e := hF
      refine c_endPower (r := true) hS z3 z6 (by omega) k27 z4 kB hB2 hR w63 (fun _ => wr) (fun K1 N1 v e1 e2 o1 o2 o3 x1 => ?_) (fun K1 N1 v _ e1 o1 o2 e29 e30 x1 => ?_)
      · obtain ⟨q0, ev⟩ := e1 rfl
        subst ev
        have o0 : K1 0 = K 0 := o1 0 (by decide) (by decide) (by decide) (by decide)
        rw [rFin_0 q0] at est
        rw [exe_ok est] at hF'
        refine sX11_expression_252 ?_
        refine sX11_expression_253 ?_
        refine sX11_expression_255 rfl ?_
        refine tX11_expression_256 hS ?_
        rw [o0, z4]
        refine nX11_expression_259 (by decide) (fun _ => ?_) (fun v => absurd rfl v)
        refine k K1 N1 _ _ _ ⟨fE_t z1 ⟨fun r b0 b1 b2 b3 b4 => o1 r b1 b2 b3 (by omega), fun j _ => by rw [o0]⟩, gS_t z2 (gS_up (by omega)), x1, by rw [o0]; exact z4, by rw [o0]; exact z5, by rw [o0]; exact z6, fun v => (by cases v)⟩ (RLx_0 (by rw [o0]) (by rw [o0]) (by rw [o0]) hL) (fun _ => ⟨?_, ?_, o3, ?_, ?_, ?_⟩) hF' (fun z hz => by simp only [List.mem_cons, List.not_mem_nil, or_false] at hz; rcases hz with rfl | rfl | rfl | rfl | rfl <;> exact xlk_mem rfl)
        · exact gT_c (by rw [o1 16 (by decide) (by decide) (by decide) (by decide)]) (by rw [o1 21 (by decide) (by decide) (by decide) (by decide)]) (by rw [o1 22 (by decide) (by decide) (by decide) (by decide)]) a1
        · exact gM_c (by rw [o1 15 (by decide) (by decide) (by decide) (by decide)]) (by rw [o1 18 (by decide) (by decide) (by decide) (by decide)]) (by rw [o1 19 (by decide) (by decide) (by decide) (by decide)]) (by rw [o1 20 (by decide) (by decide) (by decide) (by decide)]) a2
        · refine gs_c (fun r j b1 b2 b3 => ?_) a5
          by_cases hr17 : r = 17
          · subst hr17; exact o2 j (by omega)
          · rw [o1 r (by omega) (by omega) (by omega) hr17]
        · rw [vup_s, lT_c (vup_n (by omega)), lS_c (vup_n (by omega)), sts_c (fun w hw => vup_n (by omega))]
          rfl
        · intro u hu
          rcases List.mem_cons.mp hu with v | v
          · rw [v]; exact vWf_mul hB2 wr w63 q0
          · exact a7 u (by rw [a6']; exact List.mem_cons_of_mem _ (List.mem_cons_of_mem _ v))
      · rw [rFin_1 e1] at est
        rw [exe_bad est] at hF'
        have cb := cd_mul (B := B) (x := S (3 * ys.length + 2)) (y := S 63)
        refine sX11_expression_252 ?_
        refine sX11_expression_253 ?_
        refine sX11_expression_255 rfl ?_
        refine tX11_expression_256 hS ?_
        rw [e29]
        refine nX11_expression_259 (by omega) (fun v => absurd v e1) (fun _ => ?_)
        refine sX11_expression_262 rfl ?_
        refine sX11_expression_263 (hF'.2.2.2.1 rfl K1 N1 _ _ _ _ (fE_t z1 ⟨fun r b0 b1 b2 b3 b4 => o1 r b0 b1 b2 b3 (by omega), fun j hj => o2 j (by omega) (by omega)⟩) (gS_t z2 (gS_up (by omega))) x1 rfl e1 (by omega) e29 ?_ (by rw [o2 31 (by decide) (by decide)]; exact z5))
        rw [e30, a4 hr0]
end RefExpr
