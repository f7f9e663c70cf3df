/-! ===== numbers by digits of 30 bits: the class's ===== -/
def yB (k : Nat) : Nat := 1073741824 ^ k
def yh (x k : Nat) : Nat := x / yB k
def yg (x k : Nat) : Nat := yh x k % 1073741824
theorem yB_s (k : Nat) : yB (k + 1) = yB k * 1073741824 := Nat.pow_succ ..
theorem yB_pos (k : Nat) : 0 < yB k := Nat.pow_pos (by decide)
theorem yh_0 (x : Nat) : yh x 0 = x := Nat.div_one x
theorem yh_s (x k : Nat) : yh x (k + 1) = yh x k / 1073741824 := by
  unfold yh
  rw [yB_s, Nat.div_div_eq_div_mul]
theorem yg_lt (x k : Nat) : yg x k < 1073741824 := Nat.mod_lt _ (by decide)
theorem yh_z (k : Nat) : yh 0 k = 0 := Nat.zero_div _
theorem yg_z (k : Nat) : yg 0 k = 0 := by unfold yg; rw [yh_z]
theorem yh_small {x n : Nat} (h : x < yB n) : yh x n = 0 := Nat.div_eq_of_lt h
theorem yh_lt {x n : Nat} (h : yh x n = 0) : x < yB n := by
  have := (Nat.div_eq_zero_iff).mp h
  have := yB_pos n
  omega
theorem yh_mono {x y : Nat} (k : Nat) (h : x ≤ y) : yh x k ≤ yh y k := Nat.div_le_div_right h
theorem yh_less {x y k : Nat} (h : yh x k < yh y k) : x < y := by
  rcases Nat.lt_or_ge x y with q | q
  · exact q
  · have := yh_mono k q; omega
theorem yh_eq (x k : Nat) : yh x k = 1073741824 * yh x (k + 1) + yg x k := by
  rw [yh_s]; unfold yg; omega
theorem yh_up {x k : Nat} (h : yh x k = 0) : ∀ j, yh x (k + j) = 0
  | 0 => h
  | j + 1 => by rw [← Nat.add_assoc, yh_s, yh_up h j]
theorem yg_up {x k j : Nat} (h : yh x k = 0) (hj : k ≤ j) : yg x j = 0 := by
  obtain ⟨d, rfl⟩ := Nat.le.dest hj
  unfold yg; rw [yh_up h d]
theorem yh_ext {x y n : Nat} (hd : ∀ k, k < n → yg x k = yg y k) (hn : yh x n = yh y n) : ∀ j, j ≤ n → yh x (n - j) = yh y (n - j)
  | 0, _ => hn
  | j + 1, hj => by
    have ih := yh_ext hd hn j (by omega)
    have e1 := yh_eq x (n - (j + 1))
    have e2 := yh_eq y (n - (j + 1))
    rw [show n - (j + 1) + 1 = n - j by omega] at e1 e2
    rw [e1, e2, ih, hd _ (by omega)]
theorem yg_ext {x y n : Nat} (hd : ∀ k, k < n → yg x k = yg y k) (hx : x < yB n) (hy : y < yB n) : x = y := by
  have := yh_ext hd (by rw [yh_small hx, yh_small hy]) n (Nat.le_refl n)
  rwa [Nat.sub_self, yh_0, yh_0] at this
theorem yg_small {v : Nat} (h : v < 1073741824) : ∀ k, yg v k = if k = 0 then v else 0
  | 0 => by unfold yg; rw [yh_0, if_pos rfl]; omega
  | k + 1 => by
    rw [if_neg (by omega)]
    have h1 : yh v 1 = 0 := by rw [yh_s, yh_0]; omega
    exact yg_up h1 (by omega)
theorem yB_two (k : Nat) : yB k = 2 ^ (30 * k) := by
  unfold yB
  rw [Nat.pow_mul]
theorem yB_add (i j : Nat) : yB (i + j) = yB i * yB j := Nat.pow_add ..
theorem yg_low {T M i j : Nat} (h : j < i) : yg (T + yB i * M) j = yg T j := by
  unfold yg yh
  obtain ⟨d, rfl⟩ : ∃ d, i = j + (d + 1) := ⟨i - j - 1, by omega⟩
  rw [yB_add, Nat.mul_assoc, Nat.add_mul_div_left _ _ (yB_pos j), yB_s, Nat.mul_comm (yB d) 1073741824, Nat.mul_assoc]
  omega
theorem ymod_s (x i : Nat) : x % yB (i + 1) = x % yB i + yB i * yg x i := by
  rw [yB_s, Nat.mod_mul]
  rfl
theorem yh_div (x d t : Nat) : yh (x / d) t = yh x t / d := by
  unfold yh
  rw [Nat.div_div_eq_div_mul, Nat.div_div_eq_div_mul, Nat.mul_comm]
def yl (v s : Nat) : Prop := v < yB s ∧ (s = 0 ∨ yB (s - 1) ≤ v)
theorem yl_le {v s c : Nat} (h : yl v s) (hc : v < yB c) : s ≤ c := by
  rcases Nat.lt_or_ge c s with q | q
  · rcases h.2 with r | r
    · omega
    · have : yB c ≤ yB (s - 1) := Nat.pow_le_pow_right (by decide) (by omega)
      omega
  · exact q
theorem yl_0 {s : Nat} (h : yl 0 s) : s = 0 := by
  rcases h.2 with r | r
  · exact r
  · have := yB_pos (s - 1); omega
theorem yl_pos {v s : Nat} (h : yl v s) (hv : 0 < v) : 0 < s := by
  rcases Nat.eq_zero_or_pos s with e | e
  · subst e; have := h.1; rw [show yB 0 = 1 from rfl] at this; omega
  · exact e
theorem yl_top {v s : Nat} (h : yl v s) (hs : 0 < s) : yh v (s - 1) = yg v (s - 1) ∧ 0 < yg v (s - 1) := by
  have e1 := yh_eq v (s - 1)
  rw [show s - 1 + 1 = s by omega, yh_small h.1] at e1
  have h2 : yB (s - 1) ≤ v := h.2.resolve_left (by omega)
  have : 0 < yh v (s - 1) := Nat.div_pos h2 (yB_pos _)
  omega
theorem yl_of {v s : Nat} (h1 : v < yB s) (h2 : s = 0 ∨ 0 < yg v (s - 1)) : yl v s := by
  refine ⟨h1, ?_⟩
  rcases h2 with e | e
  · exact Or.inl e
  · refine Or.inr ?_
    rcases Nat.lt_or_ge v (yB (s - 1)) with q | q
    · have := yh_small q
      unfold yg at e
      rw [this] at e
      omega
    · exact q
/-- a Natural at a, its row of c places behind it -/
def CN (h : xH) (a c : Nat) : Prop := (xT h a).1 = 5 ∧ xP h a 0 = some (a + 1) ∧ xT h (a + 1) = (100, c)
/-- its ints: s places, which are v's digits -/
def NR (J : Nat → Nat → Int32) (a c v s : Nat) : Prop := s ≤ c ∧ v < yB s ∧ J a 1 = nI s ∧ ∀ i, i < s → J (a + 1) i = nI (yg v i)
def NJ (J : Nat → Nat → Int32) (a c v : Nat) : Prop := ∃ s, NR J a c v s ∧ yl v s
def yo (a : Nat) (J J' : Nat → Nat → Int32) : Prop := ∀ q, q ≠ a → q ≠ a + 1 → J' q = J q
theorem yo_rf (a : Nat) (J : Nat → Nat → Int32) : yo a J J := fun _ _ _ => rfl
theorem yo_tr {a : Nat} {J J' J'' : Nat → Nat → Int32} (h : yo a J J') (h' : yo a J' J'') : yo a J J'' := fun q p r => (h' q p r).trans (h q p r)
theorem yo_s {a : Nat} {J : Nat → Nat → Int32} {k : Nat} {v : Int32} : yo a J (xup2 J a k v) := fun q p _ => xup2_r p
theorem yo_l {a : Nat} {J : Nat → Nat → Int32} {k : Nat} {v : Int32} : yo a J (xup2 J (a + 1) k v) := fun q _ p => xup2_r p
theorem CN_ne {h : xH} {a b c d : Nat} (ha : CN h a c) (hb : CN h b d) (hne : b ≠ a) : b ≠ a + 1 ∧ b + 1 ≠ a ∧ b + 1 ≠ a + 1 := by
  refine ⟨fun e => ?_, fun e => ?_, by omega⟩
  · have := hb.1; rw [e, ha.2.2] at this; cases this
  · have := ha.1; rw [← e, hb.2.2] at this; cases this
theorem NR_o {h : xH} {J J' : Nat → Nat → Int32} {a b c d v s : Nat} (ha : CN h a c) (hb : CN h b d) (hne : b ≠ a) (ho : yo a J J') (hn : NR J b d v s) : NR J' b d v s := by
  obtain ⟨n1, n2, n3⟩ := CN_ne ha hb hne
  obtain ⟨h1, h2, h3, h4⟩ := hn
  exact ⟨h1, h2, by rw [ho b hne n1]; exact h3, fun i hi => by rw [ho (b + 1) n2 n3]; exact h4 i hi⟩
theorem NJ_o {h : xH} {J J' : Nat → Nat → Int32} {a b c d v : Nat} (ha : CN h a c) (hb : CN h b d) (hne : b ≠ a) (ho : yo a J J') (hn : NJ J b d v) : NJ J' b d v := by
  obtain ⟨s, h1, h2⟩ := hn
  exact ⟨s, NR_o ha hb hne ho h1, h2⟩
theorem NJ_lt {J : Nat → Nat → Int32} {a c v : Nat} (h : NJ J a c v) : v < yB c := by
  obtain ⟨s, ⟨h1, h2, -⟩, -⟩ := h
  exact Nat.lt_of_lt_of_le h2 (Nat.pow_le_pow_right (by decide) h1)
theorem nI_mask {n : Nat} (h : n < 2 ^ 32) : nI n &&& 1073741823 = nI (n % 1073741824) := pk_andN h 30 (by decide)
