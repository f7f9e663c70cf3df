/-! ===== numbers by digits of 15 bits ===== -/
def zB (k : Nat) : Nat := 32768 ^ k
def zh (x k : Nat) : Nat := x / zB k
def zg (x k : Nat) : Nat := zh x k % 32768
theorem zB_s (k : Nat) : zB (k + 1) = zB k * 32768 := Nat.pow_succ ..
theorem zB_pos (k : Nat) : 0 < zB k := Nat.pow_pos (by decide)
theorem zh_0 (x : Nat) : zh x 0 = x := Nat.div_one x
theorem zh_s (x k : Nat) : zh x (k + 1) = zh x k / 32768 := by
  unfold zh
  rw [zB_s, Nat.div_div_eq_div_mul]
theorem zg_lt (x k : Nat) : zg x k < 32768 := Nat.mod_lt _ (by decide)
theorem zh_z (k : Nat) : zh 0 k = 0 := Nat.zero_div _
theorem zg_z (k : Nat) : zg 0 k = 0 := by unfold zg; rw [zh_z]
theorem zh_small {x n : Nat} (h : x < zB n) : zh x n = 0 := Nat.div_eq_of_lt h
theorem zh_lt {x n : Nat} (h : zh x n = 0) : x < zB n := by
  have := (Nat.div_eq_zero_iff).mp h
  have := zB_pos n
  omega
theorem zh_mono {x y : Nat} (k : Nat) (h : x ≤ y) : zh x k ≤ zh y k := Nat.div_le_div_right h
theorem zh_less {x y k : Nat} (h : zh x k < zh y k) : x < y := by
  rcases Nat.lt_or_ge x y with q | q
  · exact q
  · have := zh_mono k q; omega
theorem zh_eq (x k : Nat) : zh x k = 32768 * zh x (k + 1) + zg x k := by
  rw [zh_s]; unfold zg; omega
theorem zh_up {x k : Nat} (h : zh x k = 0) : ∀ j, zh x (k + j) = 0
  | 0 => h
  | j + 1 => by rw [← Nat.add_assoc, zh_s, zh_up h j]
theorem zg_up {x k j : Nat} (h : zh x k = 0) (hj : k ≤ j) : zg x j = 0 := by
  obtain ⟨d, rfl⟩ := Nat.le.dest hj
  unfold zg; rw [zh_up h d]
theorem zh_ext {x y n : Nat} (hd : ∀ k, k < n → zg x k = zg y k) (hn : zh x n = zh y n) : ∀ j, j ≤ n → zh x (n - j) = zh y (n - j)
  | 0, _ => hn
  | j + 1, hj => by
    have ih := zh_ext hd hn j (by omega)
    have e1 := zh_eq x (n - (j + 1))
    have e2 := zh_eq y (n - (j + 1))
    rw [show n - (j + 1) + 1 = n - j by omega] at e1 e2
    rw [e1, e2, ih, hd _ (by omega)]
theorem zg_ext {x y n : Nat} (hd : ∀ k, k < n → zg x k = zg y k) (hx : x < zB n) (hy : y < zB n) : x = y := by
  have := zh_ext hd (by rw [zh_small hx, zh_small hy]) n (Nat.le_refl n)
  rwa [Nat.sub_self, zh_0, zh_0] at this
theorem zg_small {v : Nat} (h : v < 32768) : ∀ k, zg v k = if k = 0 then v else 0
  | 0 => by unfold zg; rw [zh_0, if_pos rfl]; omega
  | k + 1 => by
    rw [if_neg (by omega)]
    have h1 : zh v 1 = 0 := by rw [zh_s, zh_0]; omega
    exact zg_up h1 (by omega)
theorem zg_val {x : Nat} (f : Nat → Nat) (hf : ∀ k, k < 80 → f k = zg x k) (hx : x < zB 80) {y : Nat} (hy : y < zB 80) (h : ∀ k, k < 80 → f k = zg y k) : x = y := zg_ext (n := 80) (fun k hk => (hf k hk).symm.trans (h k hk)) hx hy
/-- the numbers of the reference: number n in places 80 n .. of row 1 -/
def RN (K : Nat → Nat → Int32) (N : Nat → Nat) : Prop := ∀ n, n < 350 → N n < zB 80 ∧ ∀ k, k < 80 → K 1 (80 * n + k) = nI (zg (N n) k)
def xo1 (K K' : Nat → Nat → Int32) : Prop := ∀ r, r ≠ 1 → K' r = K r
theorem xo1_rf (K : Nat → Nat → Int32) : xo1 K K := fun _ _ => rfl
theorem xo1_tr {K K' K'' : Nat → Nat → Int32} (h : xo1 K K') (h' : xo1 K' K'') : xo1 K K'' := fun r hr => (h' r hr).trans (h r hr)
theorem xo1_up {K : Nat → Nat → Int32} {i : Nat} {v : Int32} : xo1 K (xup2 K 1 i v) := fun r hr => by
  funext j
  unfold xup2
  rw [if_neg hr]
theorem xup2_s {K : Nat → Nat → Int32} {r i : Nat} {v : Int32} : xup2 K r i v r i = v := by unfold xup2; rw [if_pos rfl, if_pos rfl]
theorem xup2_n {K : Nat → Nat → Int32} {r i j : Nat} {v : Int32} (h : j ≠ i) : xup2 K r i v r j = K r j := by unfold xup2; rw [if_pos rfl, if_neg h]
theorem xup2_r {K : Nat → Nat → Int32} {r r' i : Nat} {v : Int32} (h : r' ≠ r) : xup2 K r i v r' = K r' := by funext j; unfold xup2; rw [if_neg h]
/-- while number n is written from its lowest place on: below k it is y's digits, from k on x's -/
def RP (K : Nat → Nat → Int32) (N : Nat → Nat) (n : Nat) (f : Nat → Nat) : Prop := (∀ a, a < 350 → a ≠ n → N a < zB 80 ∧ ∀ k, k < 80 → K 1 (80 * a + k) = nI (zg (N a) k)) ∧ ∀ k, k < 80 → K 1 (80 * n + k) = nI (f k)
theorem RP_of {K : Nat → Nat → Int32} {N : Nat → Nat} {n : Nat} (h : RN K N) (hn : n < 350) : RP K N n (zg (N n)) := ⟨fun a ha _ => h a ha, (h n hn).2⟩
theorem RP_put {K : Nat → Nat → Int32} {N : Nat → Nat} {n k : Nat} {f : Nat → Nat} {v : Nat} (h : RP K N n f) (hk : k < 80) : RP (xup2 K 1 (80 * n + k) (nI v)) N n (fun j => if j = k then v else f j) := by
  refine ⟨fun a ha hne => ⟨(h.1 a ha hne).1, fun j hj => ?_⟩, fun j hj => ?_⟩
  · rw [xup2_n (by omega)]
    exact (h.1 a ha hne).2 j hj
  · by_cases hjk : j = k
    · subst hjk
      rw [xup2_s]
      show nI v = nI (if j = j then v else f j)
      rw [if_pos rfl]
    · rw [xup2_n (by omega)]
      show K 1 (80 * n + j) = nI (if j = k then v else f j)
      rw [if_neg hjk]
      exact h.2 j hj
theorem RP_end {K : Nat → Nat → Int32} {N : Nat → Nat} {n y : Nat} {f : Nat → Nat} (h : RP K N n f) (hy : y < zB 80) (hf : ∀ k, k < 80 → f k = zg y k) : RN K (va_up N n y) := by
  intro a ha
  unfold va_up
  by_cases hE : a = n
  · subst hE
    rw [if_pos rfl]
    exact ⟨hy, fun k hk => by rw [h.2 k hk, hf k hk]⟩
  · rw [if_neg hE]
    exact h.1 a ha hE
theorem RP_rd {K : Nat → Nat → Int32} {N : Nat → Nat} {n a k : Nat} {f : Nat → Nat} (h : RP K N n f) (ha : a < 350) (hne : a ≠ n) (hk : k < 80) : K 1 (80 * a + k) = nI (zg (N a) k) := (h.1 a ha hne).2 k hk
theorem RP_to {K : Nat → Nat → Int32} {N : Nat → Nat} {n : Nat} {f f' : Nat → Nat} (h : RP K N n f) (e : ∀ k, k < 80 → f k = f' k) : RP K N n f' := ⟨h.1, fun k hk => by rw [← e k hk]; exact h.2 k hk⟩
def zm (i y x : Nat) : Nat → Nat := fun j => if j < i then zg y j else zg x j
theorem RP_st {K : Nat → Nat → Int32} {N : Nat → Nat} {n : Nat} (y : Nat) (h : RN K N) (hn : n < 350) : RP K N n (zm 0 y (N n)) := RP_to (RP_of h hn) (fun k _ => by unfold zm; rw [if_neg (by omega)])
theorem RP_go {K : Nat → Nat → Int32} {N : Nat → Nat} {n i y x v : Nat} (h : RP K N n (zm i y x)) (hi : i < 80) (hv : v = zg y i) : RP (xup2 K 1 (80 * n + i) (nI v)) N n (zm (i + 1) y x) := by
  refine RP_to (RP_put h hi) (fun j _ => ?_)
  unfold zm
  by_cases hj : j = i
  · subst hj; rw [if_pos rfl, if_pos (by omega), hv]
  · rw [if_neg hj]
    by_cases hl : j < i
    · rw [if_pos hl, if_pos (by omega)]
    · rw [if_neg hl, if_neg (by omega)]
theorem RP_fin {K : Nat → Nat → Int32} {N : Nat → Nat} {n y x : Nat} (h : RP K N n (zm 80 y x)) (hy : y < zB 80) : RN K (va_up N n y) := RP_end h hy (fun k hk => by unfold zm; rw [if_pos hk])
theorem RP_own {K : Nat → Nat → Int32} {N : Nat → Nat} {n i y x : Nat} (h : RP K N n (zm i y x)) (hi : i < 80) : K 1 (80 * n + i) = nI (zg x i) := by
  rw [h.2 i hi]; unfold zm; rw [if_neg (by omega)]
/-- the same from the highest place on -/
def zmd (t y x : Nat) : Nat → Nat := fun j => if t ≤ j then zg y j else zg x j
theorem RPd_st {K : Nat → Nat → Int32} {N : Nat → Nat} {n : Nat} (y : Nat) (h : RN K N) (hn : n < 350) : RP K N n (zmd 80 y (N n)) := RP_to (RP_of h hn) (fun k hk => by unfold zmd; rw [if_neg (by omega)])
theorem RPd_go {K : Nat → Nat → Int32} {N : Nat → Nat} {n t y x v : Nat} (h : RP K N n (zmd (t + 1) y x)) (hi : t < 80) (hv : v = zg y t) : RP (xup2 K 1 (80 * n + t) (nI v)) N n (zmd t y x) := by
  refine RP_to (RP_put h hi) (fun j _ => ?_)
  unfold zmd
  by_cases hj : j = t
  · subst hj; rw [if_pos rfl, if_pos (by omega), hv]
  · rw [if_neg hj]
    by_cases hl : t + 1 ≤ j
    · rw [if_pos hl, if_pos (by omega)]
    · rw [if_neg hl, if_neg (by omega)]
theorem RPd_fin {K : Nat → Nat → Int32} {N : Nat → Nat} {n y x : Nat} (h : RP K N n (zmd 0 y x)) (hy : y < zB 80) : RN K (va_up N n y) := RP_end h hy (fun k hk => by unfold zmd; rw [if_pos (by omega)])
theorem RPd_own {K : Nat → Nat → Int32} {N : Nat → Nat} {n t y x : Nat} (h : RP K N n (zmd (t + 1) y x)) (hi : t < 80) : K 1 (80 * n + t) = nI (zg x t) := by
  rw [h.2 t hi]; unfold zmd; rw [if_neg (by omega)]
theorem RN_id {K : Nat → Nat → Int32} {N : Nat → Nat} {n : Nat} (h : RN K (va_up N n (N n))) : RN K N := by
  intro a ha
  have := h a ha
  unfold va_up at this
  by_cases hE : a = n
  · rw [if_pos hE] at this; rw [hE] at this ⊢; exact this
  · rw [if_neg hE] at this; exact this
theorem nI_m1 (t : Nat) : nI t + (-1) = nI t - 1 := by rw [Int32.sub_eq_add_neg]
theorem nI_0m : (nI 0 - 1 : Int32) < 0 := by decide
theorem zup_s {N : Nat → Nat} {n y : Nat} : va_up N n y n = y := by unfold va_up; rw [if_pos rfl]
theorem zup_n {N : Nat → Nat} {n a y : Nat} (h : a ≠ n) : va_up N n y a = N a := by unfold va_up; rw [if_neg h]
