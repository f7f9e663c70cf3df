/-! ===== the reference's object at b and its rows at b + 1 .. b + 23: one memory K, row by row ===== -/
def rk (j : Nat) : Nat := match j with
  | 15 => 102 | 16 => 102 | 17 => 102 | 18 => 102
  | _ => 100
def rl (j : Nat) : Nat := match j with
  | 1 => 28000 | 2 => 170 | 3 => 1360 | 4 => 4000 | 7 => 5040 | 11 => 90000
  | 5 => 210 | 6 => 210 | 8 => 210 | 9 => 210 | 10 => 210 | 12 => 210 | 13 => 210 | 14 => 210
  | _ => 21
def rp (b k : Nat) : Option Nat := match k with
  | 1 => some (b + 1)
  | 2 => some (b + 2)
  | 3 => some (b + 3)
  | 4 => some (b + 4)
  | 7 => some (b + 5)
  | 8 => some (b + 6)
  | 9 => some (b + 7)
  | 10 => some (b + 8)
  | 11 => some (b + 9)
  | 12 => some (b + 10)
  | 13 => some (b + 11)
  | 15 => some (b + 12)
  | 16 => some (b + 13)
  | 17 => some (b + 14)
  | 33 => some (b + 15)
  | 34 => some (b + 16)
  | 35 => some (b + 17)
  | 36 => some (b + 18)
  | 37 => some (b + 19)
  | 38 => some (b + 20)
  | 39 => some (b + 21)
  | 40 => some (b + 22)
  | 41 => some (b + 23)
  | _ => none
def RS (h : xH) (b : Nat) : Prop := xT h b = (11, 48) ∧ (∀ k, xP h b k = rp b k) ∧ ∀ j, 0 < j → j < 24 → xT h (b + j) = (rk j, rl j)
def xB (h : xH) (b : Nat) (K : Nat → Nat → Int32) : xH := (h.1, h.2.1, h.2.2.1, (fun a i => if b ≤ a ∧ a < b + 24 then K (a - b) i else h.2.2.2.1 a i), h.2.2.2.2)
theorem xB_T (h : xH) (b : Nat) (K : Nat → Nat → Int32) : xT (xB h b K) = xT h := rfl
theorem xB_P (h : xH) (b : Nat) (K : Nat → Nat → Int32) : xP (xB h b K) = xP h := rfl
theorem xB_rd (h : xH) (b : Nat) (K : Nat → Nat → Int32) {j : Nat} (hj : j < 24) (i : Nat) : xI (xB h b K) (b + j) i = K j i := by
  show (if b ≤ b + j ∧ b + j < b + 24 then K (b + j - b) i else h.2.2.2.1 (b + j) i) = _
  rw [if_pos (by omega), Nat.add_sub_cancel_left]
theorem xB_rd0 (h : xH) (b : Nat) (K : Nat → Nat → Int32) (i : Nat) : xI (xB h b K) b i = K 0 i := xB_rd h b K (j := 0) (by omega) i
theorem xB_out (h : xH) (b : Nat) (K : Nat → Nat → Int32) {a : Nat} (ha : a < b ∨ b + 24 ≤ a) : xI (xB h b K) a = xI h a := by
  funext i
  show (if b ≤ a ∧ a < b + 24 then K (a - b) i else h.2.2.2.1 a i) = _
  rw [if_neg (by omega)]
  rfl
theorem xB_wr (h : xH) (b : Nat) (K : Nat → Nat → Int32) {j : Nat} (hj : j < 24) (i : Nat) (v : Int32) : xsI (xB h b K) (b + j) i v = xB h b (xup2 K j i v) := by
  unfold xsI xB
  simp only [Prod.mk.injEq, true_and, and_true]
  funext a k
  show (if a = b + j then (if k = i then v else (if b ≤ a ∧ a < b + 24 then K (a - b) k else h.2.2.2.1 a k)) else (if b ≤ a ∧ a < b + 24 then K (a - b) k else h.2.2.2.1 a k)) = (if b ≤ a ∧ a < b + 24 then (if a - b = j then (if k = i then v else K (a - b) k) else K (a - b) k) else h.2.2.2.1 a k)
  by_cases ha : a = b + j
  · rw [if_pos ha, if_pos (show b ≤ a ∧ a < b + 24 by omega), if_pos (show b ≤ a ∧ a < b + 24 by omega), if_pos (show a - b = j by omega)]
  · rw [if_neg ha]
    by_cases h1 : b ≤ a ∧ a < b + 24
    · rw [if_pos h1, if_pos h1, if_neg (show ¬ a - b = j by omega)]
    · rw [if_neg h1, if_neg h1]
theorem xB_wr0 (h : xH) (b : Nat) (K : Nat → Nat → Int32) (i : Nat) (v : Int32) : xsI (xB h b K) b i v = xB h b (xup2 K 0 i v) := xB_wr h b K (j := 0) (by omega) i v
theorem xB_id (h : xH) (b : Nat) : xB h b (fun j i => xI h (b + j) i) = h := by
  obtain ⟨n, s, T, I, P⟩ := h
  unfold xB
  simp only [Prod.mk.injEq, true_and, and_true]
  funext a i
  show (if b ≤ a ∧ a < b + 24 then I (b + (a - b)) i else I a i) = I a i
  by_cases h1 : b ≤ a ∧ a < b + 24
  · rw [if_pos h1, show b + (a - b) = a by omega]
  · rw [if_neg h1]
theorem RS.tg {h : xH} {b : Nat} (hS : RS h b) {K : Nat → Nat → Int32} : (xT (xB h b K) b).1 = 11 := congrArg Prod.fst hS.1
theorem RS.pt {h : xH} {b : Nat} (hS : RS h b) {K : Nat → Nat → Int32} (k : Nat) {a : Nat} (e : rp b k = some a) : xP (xB h b K) b k = some a := (hS.2.1 k).trans e
theorem RS.rt {h : xH} {b : Nat} (hS : RS h b) {K : Nat → Nat → Int32} {j : Nat} (h0 : 0 < j) (h1 : j < 24) : xT (xB h b K) (b + j) = (rk j, rl j) := hS.2.2 j h0 h1
theorem rl_small (j : Nat) : rl j < 2 ^ 31 := by
  unfold rl
  split <;> decide
section RefRules
variable {g : xG} {l : Launch} {M : xM} {pc : Nat} {lv : List (Nat × Value)} {st : List Value} {h : xH} {b : Nat} {K : Nat → Nat → Int32} {Q : Option Value → xH → Prop}
theorem r_iald {j n : Nat} (hS : RS h b) (hd : decode M.2.1 pc = .ok (.iaload, 1)) (h0 : 0 < j) (h1 : j < 24) (hk : rk j = 100) (hn : n < rl j) (k : aw g l M (pc + 1) lv (.int (K j n) :: st) (xB h b K) Q) : aw g l M pc lv (.int (nI n) :: .ref (b + j) :: st) (xB h b K) Q := by
  have hz : n < 2 ^ 31 := Nat.lt_trans hn (rl_small j)
  refine x_iald hd (Or.inl (by rw [hS.rt h0 h1]; exact hk)) (by rw [hS.rt h0 h1]; exact vp_in_nI hn (rl_small j)) ?_
  rw [nI_clamp hz, xB_rd h b K h1]
  exact k
theorem r_bald {j n : Nat} (hS : RS h b) (hd : decode M.2.1 pc = .ok (.baload, 1)) (h0 : 0 < j) (h1 : j < 24) (hk : rk j = 102) (hn : n < rl j) (k : aw g l M (pc + 1) lv (.int (K j n) :: st) (xB h b K) Q) : aw g l M pc lv (.int (nI n) :: .ref (b + j) :: st) (xB h b K) Q := by
  have hz : n < 2 ^ 31 := Nat.lt_trans hn (rl_small j)
  refine x_bald hd (Or.inr (by rw [hS.rt h0 h1]; exact hk)) (by rw [hS.rt h0 h1]; exact vp_in_nI hn (rl_small j)) ?_
  rw [nI_clamp hz, xB_rd h b K h1]
  exact k
theorem r_iast {j n : Nat} {v : Int32} (hS : RS h b) (hd : decode M.2.1 pc = .ok (.iastore, 1)) (h0 : 0 < j) (h1 : j < 24) (hk : rk j = 100) (hn : n < rl j) (k : aw g l M (pc + 1) lv st (xB h b (xup2 K j n v)) Q) : aw g l M pc lv (.int v :: .int (nI n) :: .ref (b + j) :: st) (xB h b K) Q := by
  have hz : n < 2 ^ 31 := Nat.lt_trans hn (rl_small j)
  refine x_iast hd (by rw [hS.rt h0 h1]; exact hk) (by rw [hS.rt h0 h1]; exact vp_in_nI hn (rl_small j)) ?_
  rw [nI_clamp hz, xB_wr h b K h1]
  exact k
theorem r_zast {j n : Nat} {v : Int32} (hS : RS h b) (hd : decode M.2.1 pc = .ok (.bastore, 1)) (h0 : 0 < j) (h1 : j < 24) (hk : rk j = 102) (hn : n < rl j) (hb : v = 0 ∨ v = 1) (k : aw g l M (pc + 1) lv st (xB h b (xup2 K j n v)) Q) : aw g l M pc lv (.int v :: .int (nI n) :: .ref (b + j) :: st) (xB h b K) Q := by
  have hz : n < 2 ^ 31 := Nat.lt_trans hn (rl_small j)
  refine x_zast hd (by rw [hS.rt h0 h1]; exact hk) (by rw [hS.rt h0 h1]; exact vp_in_nI hn (rl_small j)) (xboo hb).1 ?_
  rw [nI_clamp hz, xB_wr h b K h1]
  exact k
theorem n_ne0 {d : Nat} (h0 : 0 < d) (h : d < 2 ^ 31) : ¬ nI d = 0 := nI_ne0 h0 h
theorem n_lt0 {a : Nat} (h : a < 2 ^ 31) : ¬ nI a < 0 := nI_pos h
theorem n_eq0 {a : Nat} (h : a < 2 ^ 31) : nI a = 0 ↔ a = 0 := by
  rw [show (0 : Int32) = nI 0 from rfl]; exact nI_eq h (by decide)
theorem n_gt0 {a : Nat} (h : a < 2 ^ 31) : 0 < nI a ↔ 0 < a := by
  rw [show (0 : Int32) = nI 0 from rfl]; exact nI_ltI (by decide) h
theorem n_le0 {a : Nat} (h : a < 2 ^ 31) : nI a ≤ 0 ↔ a = 0 := by
  rw [show (0 : Int32) = nI 0 from rfl, nI_leI h (by decide)]; omega
end RefRules
