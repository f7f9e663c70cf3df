/-! ===== what steps do ===== -/
abbrev Rs : Type := Nat × Nat × Nat × List Vl
def rOk (V : List Vl) : Rs := (0, 0, 0, V)
def rBad (f p : Nat) : Rs := (1, f, p, [])
def rNeed (j : Nat) : Rs := (2, j, 0, [])
def rFin (r : Nat × Vl) (p : Nat) (V : List Vl) : Rs := if r.1 = 0 then rOk (r.2 :: V) else rBad r.1 p
def pb (C : Nat → Nat) (m a : Nat) : Bool := decide (tkK C m (nx C m a) = 45) && decide (0 < pn C m a)
theorem pb_pv {C : Nat → Nat} {m a : Nat} : pb C m a = false ∧ pv C m a = nI (pn C m a) ∨ pb C m a = true ∧ 0 < pn C m a ∧ pv C m a = -nI (pn C m a) := by
  unfold pb pv
  by_cases z : tkK C m (nx C m a) = 45
  · rw [if_pos z]
    by_cases y : 0 < pn C m a
    · exact Or.inr ⟨by simp [z, y], y, rfl⟩
    · refine Or.inl ⟨by simp [z]; omega, ?_⟩
      rw [show pn C m a = 0 by omega]; rfl
  · rw [if_neg z]; exact Or.inl ⟨by simp [z], rfl⟩
noncomputable def bin (B op : Nat) (x y : Vl) : Nat × Vl := if op = 11 then vAdd B x y y.1 else if op = 12 then vAdd B x y (-y.1) else if op = 14 then vMul B x y else if op = 15 then vDiv B x y else vTurn B x y
/-- a NAME: what is meant, what is known of it -/
noncomputable def sN (B : Nat) (E : Nat → Option (Nat × Vl)) (mg : Option Nat × Option Nat) (p : Nat) (V : List Vl) : Rs :=
  match mg with
  | (_, none) => rBad 5 p
  | (none, some t) => match E t with
    | none => rNeed t
    | some r => rFin r p V
  | (some k, some t) => match E k with
    | none => rNeed k
    | some r => if r.1 = 0 then (match E t with
      | none => rNeed t
      | some r' => if r'.1 = 0 then rFin (vMul B r.2 r'.2) p V else rBad r'.1 p) else rBad r.1 p
noncomputable def stp (B : Nat) (C : Nat → Nat) (m : Nat) (E : Nat → Option (Nat × Vl)) (mg : Nat → Nat → Option Nat × Option Nat) (s : St) (V : List Vl) : Rs :=
  if s.1 = 2 then sN B E (mg s.2.1 (tkT C m s.2.1 - s.2.1)) s.2.1 V
  else if s.1 = 3 then rFin (nuV B C m s.2.1) s.2.1 V
  else if s.1 = 17 then (match V with
    | x :: V' => rFin (vPow B x (pn C m s.2.1) (pb C m s.2.1) (pv C m s.2.1)) s.2.1 V'
    | [] => rBad 0 0)
  else if s.1 = 13 then (match V with
    | x :: V' => rOk (vS x (-x.1) :: V')
    | [] => rBad 0 0)
  else (match V with
    | y :: x :: V' => rFin (bin B s.1 x y) s.2.1 V'
    | _ => rBad 0 0)
noncomputable def exe (B : Nat) (C : Nat → Nat) (m : Nat) (E : Nat → Option (Nat × Vl)) (mg : Nat → Nat → Option Nat × Option Nat) : List St → List Vl → Rs
  | [], V => rOk V
  | s :: L, V => if (stp B C m E mg s V).1 = 0 then exe B C m E mg L (stp B C m E mg s V).2.2.2 else stp B C m E mg s V
section Exec
variable {B : Nat} {C : Nat → Nat} {m : Nat} {E : Nat → Option (Nat × Vl)} {mg : Nat → Nat → Option Nat × Option Nat} {s : St} {V V' : List Vl} {L : List St}
theorem exe_ok (h : stp B C m E mg s V = rOk V') : exe B C m E mg (s :: L) V = exe B C m E mg L V' := by
  show (if (stp B C m E mg s V).1 = 0 then exe B C m E mg L (stp B C m E mg s V).2.2.2 else stp B C m E mg s V) = _
  rw [h]; rfl
theorem exe_bad {f p : Nat} (h : stp B C m E mg s V = rBad f p) : exe B C m E mg (s :: L) V = rBad f p := by
  show (if (stp B C m E mg s V).1 = 0 then exe B C m E mg L (stp B C m E mg s V).2.2.2 else stp B C m E mg s V) = _
  rw [h]; rfl
theorem exe_need {j : Nat} (h : stp B C m E mg s V = rNeed j) : exe B C m E mg (s :: L) V = rNeed j := by
  show (if (stp B C m E mg s V).1 = 0 then exe B C m E mg L (stp B C m E mg s V).2.2.2 else stp B C m E mg s V) = _
  rw [h]; rfl
theorem rFin_0 {r : Nat × Vl} {p : Nat} (h : r.1 = 0) : rFin r p V = rOk (r.2 :: V) := if_pos h
theorem rFin_1 {r : Nat × Vl} {p : Nat} (h : r.1 ≠ 0) : rFin r p V = rBad r.1 p := if_neg h
theorem stp_bin {op p : Nat} {dt : Int32} {x y : Vl} (h1 : op ≠ 2) (h2 : op ≠ 3) (h3 : op ≠ 17) (h4 : op ≠ 13) : stp B C m E mg (op, p, dt) (y :: x :: V) = rFin (bin B op x y) p V := by
  show (if op = 2 then _ else if op = 3 then _ else if op = 17 then _ else if op = 13 then _ else _) = _
  rw [if_neg h1, if_neg h2, if_neg h3, if_neg h4]
theorem stp_neg {p : Nat} {dt : Int32} {x : Vl} : stp B C m E mg (13, p, dt) (x :: V) = rOk (vS x (-x.1) :: V) := rfl
theorem stp_num {p : Nat} {dt : Int32} : stp B C m E mg (3, p, dt) V = rFin (nuV B C m p) p V := rfl
theorem stp_pow {p : Nat} {dt : Int32} {x : Vl} : stp B C m E mg (17, p, dt) (x :: V) = rFin (vPow B x (pn C m p) (pb C m p) (pv C m p)) p V := rfl
theorem stp_name {p : Nat} {dt : Int32} : stp B C m E mg (2, p, dt) V = sN B E (mg p (tkT C m p - p)) p V := rfl
end Exec
theorem cd_fin {B : Nat} {z : Vl} : (vFin B z).1 < 10 := by
  by_cases y : vBig B z
  · rw [vFin_1 y]; exact (show (9 : Nat) < 10 by decide)
  · rw [vFin_0 y]; exact (show (0 : Nat) < 10 by decide)
theorem cd_cIf {p : Prop} {a c : Nat × Vl} (h1 : a.1 < 10) (h2 : c.1 < 10) : (cIf p a c).1 < 10 := by
  by_cases y : p
  · rw [cIf_t y]; exact h1
  · rw [cIf_f y]; exact h2
theorem cd_mul {B : Nat} {x y : Vl} : (vMul B x y).1 < 10 := cd_cIf cd_fin (show (8 : Nat) < 10 by decide)
theorem cd_div {B : Nat} {x y : Vl} : (vDiv B x y).1 < 10 := cd_cIf (show (6 : Nat) < 10 by decide) (cd_cIf cd_fin (show (8 : Nat) < 10 by decide))
theorem cd_add {B : Nat} {x y : Vl} {s : Int32} : (vAdd B x y s).1 < 10 := cd_cIf cd_fin (show (7 : Nat) < 10 by decide)
theorem cd_pow {B : Nat} {x : Vl} {k : Nat} {ng : Bool} {n : Int32} : (vPow B x k ng n).1 < 10 := cd_cIf (show (6 : Nat) < 10 by decide) (cd_cIf cd_fin (show (8 : Nat) < 10 by decide))
theorem cd_turn {B : Nat} {x y : Vl} : (vTurn B x y).1 < 10 := cd_cIf cd_div (show (7 : Nat) < 10 by decide)
theorem cd_num {B : Nat} {C : Nat → Nat} {m a : Nat} : (nuV B C m a).1 < 10 := cd_fin
theorem cd_bin {B op : Nat} {x y : Vl} : (bin B op x y).1 < 10 := by
  unfold bin
  split; exact cd_add
  split; exact cd_add
  split; exact cd_mul
  split; exact cd_div
  exact cd_turn
theorem vWf_num {B : Nat} {C : Nat → Nat} {m a : Nat} (hB2 : B ≤ 512) (h0 : (nuV B C m a).1 = 0) : vWf (nuV B C m a).2 := by
  have p10 : 0 < 10 ^ nuU C m a := Nat.pow_pos (by decide)
  refine vWf_fin hB2 ?_ (Nat.pow_pos (by decide)) ?_ (fun _ _ => by decide) h0
  · by_cases z : nuN C m a = 0
    · rw [if_pos z, z, Nat.zero_mul]; exact ⟨fun _ => rfl, fun _ => rfl⟩
    · rw [if_neg z]
      refine ⟨fun y => absurd y (by decide), fun y => ?_⟩
      rcases Nat.mul_eq_zero.mp y with w | w <;> omega
  · by_cases z : nuN C m a = 0
    · rw [if_pos z]; exact Or.inr (Or.inl rfl)
    · rw [if_neg z]; exact Or.inr (Or.inr rfl)
theorem vWf_neg {x : Vl} (h : vWf x) : vWf (vS x (-x.1)) := by
  obtain ⟨h1, h2, h3, h4, h5, h6, h7⟩ := h
  refine ⟨h1, h2, h3, ?_, ?_, h6, h7⟩
  · show -x.1 = 0 ↔ x.2.1 = 0
    rw [← h4]
    rcases h5 with z | z | z <;> rw [z] <;> decide
  · show -x.1 = -1 ∨ -x.1 = 0 ∨ -x.1 = 1
    rcases h5 with z | z | z <;> rw [z] <;> decide
theorem vWf_turn {B : Nat} {x y : Vl} (hB2 : B ≤ 512) (wx : vWf x) (wy : vWf y) (h0 : (vTurn B x y).1 = 0) : vWf (vTurn B x y).2 := by
  unfold vTurn at h0 ⊢
  by_cases z : pEq x.2.2.2 y.2.2.2
  · rw [cIf_t z] at h0 ⊢; exact vWf_div hB2 wx wy h0
  · rw [cIf_f z] at h0; exact absurd h0 (show (7 : Nat) ≠ 0 by decide)
theorem vWf_bin {B op : Nat} {x y : Vl} (hB2 : B ≤ 512) (wx : vWf x) (wy : vWf y) (h0 : (bin B op x y).1 = 0) : vWf (bin B op x y).2 := by
  unfold bin at h0 ⊢
  split at h0 <;> rename_i z1
  · rw [if_pos z1]; exact vWf_add hB2 wx wy (Or.inl rfl) h0
  rw [if_neg z1]
  split at h0 <;> rename_i z2
  · rw [if_pos z2]; exact vWf_add hB2 wx wy (Or.inr rfl) h0
  rw [if_neg z2]
  split at h0 <;> rename_i z3
  · rw [if_pos z3]; exact vWf_mul hB2 wx wy h0
  rw [if_neg z3]
  split at h0 <;> rename_i z4
  · rw [if_pos z4]; exact vWf_div hB2 wx wy h0
  · rw [if_neg z4]; exact vWf_turn hB2 wx wy h0
/-! ===== the reference's endPower, endRow, endTerm ===== -/
theorem RX_row {K K' : Nat → Nat → Int32} {N : Nat → Nat} {S : Nat → Vl} (h1 : K' 1 = K 1) (h2 : K' 2 = K 2) (h3 : K' 3 = K 3) (h : RX K N S) : RX K' N S := by
  refine ⟨RN_row h1 h.1, fun w hw => ?_⟩
  rw [h2, h3]
  exact h.2 w hw
theorem RX_row17 {K : Nat → Nat → Int32} {N : Nat → Nat} {S : Nat → Vl} {i : Nat} {v : Int32} (h : RX K N S) : RX (xup2 K 17 i v) N S := RX_row (xup2_r (by decide)) (xup2_r (by decide)) (xup2_r (by decide)) h
theorem RX_row0 {K : Nat → Nat → Int32} {N : Nat → Nat} {S : Nat → Vl} {i : Nat} {v : Int32} (h : RX K N S) : RX (xup2 K 0 i v) N S := RX_row (xup2_r (by decide)) (xup2_r (by decide)) (xup2_r (by decide)) h
section RefEnd
variable {g : xG} {l : Launch} {h : xH} {b : Nat} {K : Nat → Nat → Int32} {N : Nat → Nat} {S : Nat → Vl} {Q : Option Value → xH → Prop}
theorem c_fails {f : Nat} {p : Int32} (hS : RS h b) (hf : f < 2 ^ 31) (hw : K 0 29 = nI 0) (k0 : f = 0 → Q (some (.int 0)) (xB h b K)) (k1 : f ≠ 0 → Q (some (.int 1)) (xB h b (xup2 (xup2 K 0 29 (nI f)) 0 30 p))) : ac g l mX11_fails [.ref b, .int (nI f), .int p] (xB h b K) Q := by
  refine ac_of (by decide) (Nat.le_of_ble_eq_true rfl) ?_
  refine sX11_fails_0 rfl ?_
  refine nX11_fails_1 hf (fun z => ?_) (fun z => ?_)
  · refine sX11_fails_6 rfl ?_
    refine tX11_fails_7 hS ?_
    rw [hw]
    refine nX11_fails_10 (by decide) (fun y => absurd rfl y) (fun _ => ?_)
    refine sX11_fails_13 rfl ?_
    refine sX11_fails_14 rfl ?_
    refine tX11_fails_15 hS ?_
    refine sX11_fails_18 rfl ?_
    refine sX11_fails_19 rfl ?_
    refine tX11_fails_20 hS ?_
    refine sX11_fails_23 ?_
    exact sX11_fails_24 (Or.inr rfl) (k1 z)
  · refine sX11_fails_4 ?_
    exact sX11_fails_5 (Or.inl rfl) (k0 z)
theorem c_failsW {f : Int32} {p : Int32} (hS : RS h b) (hf : f ≠ 0) (hw : K 0 29 ≠ 0) (k1 : Q (some (.int 1)) (xB h b K)) : ac g l mX11_fails [.ref b, .int f, .int p] (xB h b K) Q := by
  refine ac_of (by decide) (Nat.le_of_ble_eq_true rfl) ?_
  refine sX11_fails_0 rfl ?_
  refine sX11_fails_1 (fun z => ?_) (fun z => absurd z hf)
  refine sX11_fails_6 rfl ?_
  refine tX11_fails_7 hS ?_
  refine sX11_fails_10 (fun y => ?_) (fun y => absurd y hw)
  refine sX11_fails_23 ?_
  exact sX11_fails_24 (Or.inr rfl) k1
theorem c_open {q : Nat} (hS : RS h b) (hb : K 0 32 = nI q) (hq : q < 21) (k : Q none (xB h b (xup2 (xup2 (xup2 (xup2 K 15 q (nI 0)) 16 q (nI 0)) 17 q (nI 0)) 18 q (nI 0)))) : ac g l mX11_open [.ref b] (xB h b K) Q := by
  refine ac_of (by decide) (Nat.le_of_ble_eq_true rfl) ?_
  refine sX11_open_0 rfl ?_
  refine tX11_open_1 hS ?_
  refine sX11_open_4 rfl ?_
  refine tX11_open_5 hS ?_
  rw [hb]
  refine nX11_open_8 ?_
  refine tX11_open_9 hS (by decide) (by decide) rfl (by simp only [rl]; omega) (by first | decide | assumption) ?_
  refine sX11_open_10 rfl ?_
  refine tX11_open_11 hS ?_
  refine sX11_open_14 rfl ?_
  refine tX11_open_15 hS ?_
  rw [xup2_r (by decide), hb]
  refine nX11_open_18 ?_
  refine tX11_open_19 hS (by decide) (by decide) rfl (by simp only [rl]; omega) (by first | decide | assumption) ?_
  refine sX11_open_20 rfl ?_
  refine tX11_open_21 hS ?_
  refine sX11_open_24 rfl ?_
  refine tX11_open_25 hS ?_
  rw [xup2_r (by decide), xup2_r (by decide), hb]
  refine nX11_open_28 ?_
  refine tX11_open_29 hS (by decide) (by decide) rfl (by simp only [rl]; omega) (by first | decide | assumption) ?_
  refine sX11_open_30 rfl ?_
  refine tX11_open_31 hS ?_
  refine sX11_open_34 rfl ?_
  refine tX11_open_35 hS ?_
  rw [xup2_r (by decide), xup2_r (by decide), xup2_r (by decide), hb]
  refine nX11_open_38 ?_
  refine tX11_open_39 hS (by decide) (by decide) rfl (by simp only [rl]; omega) (by first | decide | assumption) ?_
  exact sX11_open_40 k
/-- the end of a POWER: the row so far times it -/
theorem c_endPower {q B : Nat} {r : Bool} (hS : RS h b) (hX : RX K N S) (hb : K 0 32 = nI q) (hq : q < 21) (h27 : K 0 27 = 1) (h29 : K 0 29 = nI 0) (hB : K 0 0 = nI B) (hB2 : B ≤ 512) (hr : K 17 q = if r = true then 1 else 0) (w63 : vWf (S 63)) (wr : r = true → vWf (S (3 * q + 2))) (k0 : ∀ K' N' v, (r = true → (vMul B (S (3 * q + 2)) (S 63)).1 = 0 ∧ v = (vMul B (S (3 * q + 2)) (S 63)).2) → (r = false → v = S 63) → (∀ j, j ≠ 1 → j ≠ 2 → j ≠ 3 → j ≠ 17 → K' j = K j) → (∀ j, j ≠ q → K' 17 j = K 17 j) → K' 17 q = 1 → RX K' N' (va_up S (3 * q + 2) v) → Q none (xB h b K')) (k1 : ∀ K' N' v, r = true → (vMul B (S (3 * q + 2)) (S 63)).1 ≠ 0 → (∀ j, j ≠ 0 → j ≠ 1 → j ≠ 2 → j ≠ 3 → j ≠ 17 → K' j = K j) → (∀ j, j ≠ 29 → j ≠ 30 → K' 0 j = K 0 j) → K' 0 29 = nI (vMul B (S (3 * q + 2)) (S 63)).1 → K' 0 30 = K 23 q → RX K' N' (va_up S (3 * q + 2) v) → Q none (xB h b K')) : ac g l mX11_endPower [.ref b] (xB h b K) Q := by
  refine ac_of (by decide) (Nat.le_of_ble_eq_true rfl) ?_
  refine sX11_endPower_0 rfl ?_
  refine tX11_endPower_1 hS ?_
  rw [hb]
  refine sX11_endPower_4 ?_
  refine sX11_endPower_5 rfl ?_
  refine tX11_endPower_6 hS ?_
  rw [h27]
  refine sX11_endPower_9 (fun _ => ?_) (fun z => absurd z (by decide))
  refine sX11_endPower_13 rfl ?_
  refine tX11_endPower_14 hS ?_
  refine sX11_endPower_17 rfl ?_
  refine tX11_endPower_18 hS (by decide) (by decide) rfl (by simp only [rl]; omega) ?_
  rw [hr]
  cases r with
  | true =>
    rw [if_pos rfl]
    refine sX11_endPower_19 (fun z => absurd z (by decide)) (fun _ => ?_)
    refine sX11_endPower_22 rfl ?_
    refine sX11_endPower_23 rfl ?_
    refine nX11_endPower_24 ?_
    refine sX11_endPower_25 rfl ?_
    refine nX11_endPower_26 ?_
    refine nX11_endPower_27 ?_
    refine nX11_endPower_28 ?_
    refine nX11_endPower_29 ?_
    refine sX11_endPower_31 ?_
    refine tX11_endPower_32 hS (Nat.le_of_ble_eq_true rfl) ?_
    refine c_product hS hX (by omega) (by decide) (by omega) hB hB2 (wr rfl) w63 (fun K1 N1 o1 p1 => ?_)
    have o0 : K1 0 = K 0 := o1 0 (by decide) (by decide) (by decide)
    refine sX11_endPower_35 rfl ?_
    refine tX11_endPower_36 hS ?_
    refine sX11_endPower_39 rfl ?_
    refine tX11_endPower_40 hS (by decide) (by decide) rfl (by simp only [rl]; omega) ?_
    rw [o1 23 (by decide) (by decide) (by decide)]
    refine tX11_endPower_41 hS (Nat.le_of_ble_eq_true rfl) ?_
    refine c_fails hS (by have := cd_mul (B := B) (x := S (3 * q + 2)) (y := S 63); omega) (by rw [o0]; exact h29) (fun z => ?_) (fun z => ?_)
    · refine sX11_endPower_44 rfl ?_
      refine sX11_endPower_45 ?_
      refine sX11_endPower_59 rfl ?_
      refine tX11_endPower_60 hS ?_
      refine sX11_endPower_63 rfl ?_
      refine sX11_endPower_64 ?_
      refine tX11_endPower_65 hS (by decide) (by decide) rfl (show q < 21 from hq) (Or.inr rfl) ?_
      refine sX11_endPower_66 (k0 _ N1 _ (fun _ => ⟨z, rfl⟩) (fun y => by cases y) (fun j a1 a2 a3 a4 => by rw [xup2_r a4]; exact o1 j a1 a2 a3) (fun j hj => by rw [xup2_n hj, o1 17 (by decide) (by decide) (by decide)]) xup2_s ?_)
      exact RX_row17 (p1.2 z)
    · obtain ⟨x', px⟩ := p1.1
      refine sX11_endPower_44 rfl ?_
      refine sX11_endPower_45 ?_
      refine sX11_endPower_59 rfl ?_
      refine tX11_endPower_60 hS ?_
      refine sX11_endPower_63 rfl ?_
      refine sX11_endPower_64 ?_
      refine tX11_endPower_65 hS (by decide) (by decide) rfl (show q < 21 from hq) (Or.inr rfl) ?_
      refine sX11_endPower_66 (k1 _ N1 x' rfl z (fun j a0 a1 a2 a3 a4 => by rw [xup2_r a4, xup2_r a0, xup2_r a0]; exact o1 j a1 a2 a3) (fun j a1 a2 => by rw [xup2_r (by decide), xup2_n a2, xup2_n a1, o0]) (by rw [xup2_r (by decide), xup2_n (by decide), xup2_s]) (by rw [xup2_r (by decide), xup2_s]) ?_)
      exact RX_row17 (RX_row0 (RX_row0 px))
  | false =>
    rw [if_neg (by decide)]
    refine sX11_endPower_19 (fun _ => ?_) (fun z => absurd rfl z)
    refine sX11_endPower_48 rfl ?_
    refine nX11_endPower_49 ?_
    refine sX11_endPower_50 rfl ?_
    refine nX11_endPower_51 ?_
    refine nX11_endPower_52 ?_
    refine nX11_endPower_53 ?_
    refine nX11_endPower_54 ?_
    refine tX11_endPower_56 hS (Nat.le_of_ble_eq_true rfl) ?_
    refine c_take hS hX (by omega) (by decide) (by omega) (fun K1 N1 o1 p1 => ?_)
    refine sX11_endPower_59 rfl ?_
    refine tX11_endPower_60 hS ?_
    refine sX11_endPower_63 rfl ?_
    refine sX11_endPower_64 ?_
    refine tX11_endPower_65 hS (by decide) (by decide) rfl (show q < 21 from hq) (Or.inr rfl) ?_
    refine sX11_endPower_66 (k0 _ N1 _ (fun y => by cases y) (fun _ => rfl) (fun j a1 a2 a3 a4 => by rw [xup2_r a4]; exact o1 j a1 a2 a3) (fun j hj => by rw [xup2_n hj, o1 17 (by decide) (by decide) (by decide)]) xup2_s ?_)
    exact RX_row17 p1
end RefEnd
