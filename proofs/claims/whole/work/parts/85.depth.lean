/-! ===== how high the stack is at each step ===== -/
def dk (C : Nat → Nat) (m lo u k : Nat) : List St → Nat → Prop
  | [], n => n = k
  | s :: L, n => n ≤ u ∧ ((s.1 = 2 ∧ tkK C m s.2.1 = 2 ∧ s.2.2 = tlen C m s.2.1 ∧ lo ≤ s.2.1 ∧ dk C m lo u k L (n + 1)) ∨ (s.1 = 3 ∧ tkK C m s.2.1 = 3 ∧ s.2.2 = tlen C m s.2.1 ∧ lo ≤ s.2.1 ∧ dk C m lo u k L (n + 1)) ∨ (s.1 = 17 ∧ pg C m s.2.1 ∧ s.2.2 = pv C m s.2.1 ∧ 1 ≤ n ∧ dk C m lo u k L n) ∨ (s.1 = 13 ∧ 1 ≤ n ∧ dk C m lo u k L n) ∨ ((s.1 = 11 ∨ s.1 = 12 ∨ s.1 = 14 ∨ s.1 = 15 ∨ s.1 = 18) ∧ 2 ≤ n ∧ dk C m lo u k L (n - 1)))
theorem dk_app {C : Nat → Nat} {m lo u k k' : Nat} : ∀ {L L' : List St} {n : Nat}, dk C m lo u k L n → dk C m lo u k' L' k → dk C m lo u k' (L ++ L') n
  | [], L', n, h, h' => by have : n = k := h; subst this; exact h'
  | s :: L, L', n, ⟨h1, h2⟩, h' => by
    refine ⟨h1, ?_⟩
    rcases h2 with ⟨a, b, c, d, e⟩ | ⟨a, b, c, d, e⟩ | ⟨a, b, c, d, e⟩ | ⟨a, b, c⟩ | ⟨a, b, c⟩
    · exact Or.inl ⟨a, b, c, d, dk_app e h'⟩
    · exact Or.inr (Or.inl ⟨a, b, c, d, dk_app e h'⟩)
    · exact Or.inr (Or.inr (Or.inl ⟨a, b, c, d, dk_app e h'⟩))
    · exact Or.inr (Or.inr (Or.inr (Or.inl ⟨a, b, dk_app c h'⟩)))
    · exact Or.inr (Or.inr (Or.inr (Or.inr ⟨a, b, dk_app c h'⟩)))
def vR (x : Lv) : Nat := if x.2.2.1 = 0 then 0 else 1
def vT (x : Lv) : Nat := if x.2.1.1 = 0 then 0 else 1
def vM (x : Lv) : Nat := if x.1.1 = 0 ∨ x.1.1 = 13 then 0 else 1
def vL : List Lv → Nat
  | [] => 0
  | y :: ys => vR y + vT y + vM y + vL ys
theorem v_le (x : Lv) : vR x ≤ 1 ∧ vT x ≤ 1 ∧ vM x ≤ 1 := by
  unfold vR vT vM
  refine ⟨?_, ?_, ?_⟩ <;> split <;> omega
theorem vL_le : ∀ ys, vL ys ≤ 3 * ys.length
  | [] => Nat.le_refl _
  | y :: ys => by
    have := vL_le ys
    have := v_le y
    show vR y + vT y + vM y + vL ys ≤ 3 * (ys.length + 1)
    omega
section Depth
variable {C : Nat → Nat} {m lo u k : Nat} {L : List St} {x : Lv} {n : Nat}
theorem dk_R (hx : wl x) (hn : 1 + vR x ≤ n) (hu : n ≤ u) (h : dk C m lo u k L (n - vR x)) : dk C m lo u k (em x.2.2 ++ L) n := by
  unfold em
  unfold vR at hn h
  by_cases z : x.2.2.1 = 0
  · rw [if_pos z]; rw [if_pos z] at h; exact h
  · rw [if_neg z]; rw [if_neg z] at h hn
    have e16 : x.2.2.1 = 16 := by rcases hx.2.2 with v | v; exact absurd v z; exact v
    rw [if_pos e16]
    exact ⟨hu, Or.inr (Or.inr (Or.inr (Or.inr ⟨Or.inr (Or.inr (Or.inl rfl)), by omega, h⟩)))⟩
theorem dk_T (hx : wl x) (hn : 1 + vT x ≤ n) (hu : n ≤ u) (h : dk C m lo u k L (n - vT x)) : dk C m lo u k (em x.2.1 ++ L) n := by
  unfold em
  unfold vT at hn h
  by_cases z : x.2.1.1 = 0
  · rw [if_pos z]; rw [if_pos z] at h; exact h
  · rw [if_neg z]; rw [if_neg z] at h hn
    have e16 : x.2.1.1 ≠ 16 := by rcases hx.2.1 with v | v | v <;> omega
    rw [if_neg e16]
    refine ⟨hu, Or.inr (Or.inr (Or.inr (Or.inr ⟨?_, by omega, h⟩)))⟩
    rcases hx.2.1 with v | v | v
    · exact absurd v z
    · exact Or.inr (Or.inr (Or.inl v))
    · exact Or.inr (Or.inr (Or.inr (Or.inl v)))
theorem dk_M (hx : wl x) (hn : 1 + vM x ≤ n) (hu : n ≤ u) (h : dk C m lo u k L (n - vM x)) : dk C m lo u k (em x.1 ++ L) n := by
  unfold em
  unfold vM at hn h
  by_cases z : x.1.1 = 0
  · rw [if_pos z]; rw [if_pos (Or.inl z)] at h; exact h
  · rw [if_neg z]
    have e16 : x.1.1 ≠ 16 := by rcases hx.1 with v | v | v | v <;> omega
    rw [if_neg e16]
    by_cases z13 : x.1.1 = 13
    · rw [if_pos (Or.inr z13)] at h hn
      exact ⟨hu, Or.inr (Or.inr (Or.inr (Or.inl ⟨z13, by omega, h⟩)))⟩
    · rw [if_neg (by omega)] at h hn
      refine ⟨hu, Or.inr (Or.inr (Or.inr (Or.inr ⟨?_, by omega, h⟩)))⟩
      rcases hx.1 with v | v | v | v
      · exact absurd v z
      · exact Or.inl v
      · exact Or.inr (Or.inl v)
      · exact absurd v z13
theorem dk_1 (hx : wl x) {q : Nat} (hn : n = q + 1 + (vR x + vT x + vM x)) (hu : n ≤ u) (h : dk C m lo u k L (q + 1)) : dk C m lo u k (r1 x ++ L) n := by
  have e3 : r1 x ++ L = em x.2.2 ++ (em x.2.1 ++ (em x.1 ++ L)) := by unfold r1; rw [List.append_assoc, List.append_assoc]
  rw [e3]
  refine dk_R hx (by omega) hu (dk_T hx (by omega) (by omega) (dk_M hx (by omega) (by omega) ?_))
  rw [show n - vR x - vT x - vM x = q + 1 by omega]
  exact h
theorem pm_dk {md a e : Nat} {ys : List Lv} {o : Bool} (hC : tOk C m) (pm : PM C m md a x ys L o e) : o = true → lo ≤ a → a ≤ m → wl x → wls ys → ys.length ≤ 20 → ∀ n0, n0 ≤ 1 → e ≤ m ∧ a ≤ e ∧ dk C m lo 66 (n0 + 1) L (n0 + (if md = 0 then 0 else 1) + (vR x + vT x + vM x) + vL ys) := by
  have xge : ∀ {a : Nat}, a ≤ m → a ≤ nx C m a ∧ nx C m a ≤ m := fun {a} h => ⟨Nat.le_trans (tkT_ge C m a) (nx_ge C m a), nx_le hC h⟩
  refine pm (fun md a x ys L o e => o = true → lo ≤ a → a ≤ m → wl x → wls ys → ys.length ≤ 20 → ∀ n0, n0 ≤ 1 → e ≤ m ∧ a ≤ e ∧ dk C m lo 66 (n0 + 1) L (n0 + (if md = 0 then 0 else 1) + (vR x + vT x + vM x) + vL ys)) ⟨?_, ?_, ?_, ?_, ?_, ?_, ?_, ?_, ?_, ?_, ?_, ?_, ?_, ?_, ?_, ?_, ?_, ?_⟩
  · intro a x ys L _ _ ho; cases ho
  · intro a x ys L o e h1 h2 h3 ih ho hlo ham hx hys hyl n0 hn0
    obtain ⟨g1, g2⟩ := xge ham
    obtain ⟨g3, g4⟩ := xge g2
    obtain ⟨i1, i2, i3⟩ := ih ho (by omega) g4 ⟨Or.inr (Or.inr (Or.inr rfl)), Or.inl rfl, Or.inl rfl⟩ ⟨hx, hys⟩ h2 n0 hn0
    refine ⟨i1, by omega, ?_⟩
    have e1 : n0 + (if (0 : Nat) = 0 then 0 else 1) + (vR ((13, nx C m a), (0, 0), (0, 0)) + vT ((13, nx C m a), (0, 0), (0, 0)) + vM ((13, nx C m a), (0, 0), (0, 0))) + vL (x :: ys) = n0 + (if (0 : Nat) = 0 then 0 else 1) + (vR x + vT x + vM x) + vL ys := by
      show n0 + 0 + 0 + (vR x + vT x + vM x + vL ys) = n0 + 0 + (vR x + vT x + vM x) + vL ys
      omega
    rw [e1] at i3; exact i3
  · intro a x ys L o e h1 h2 h3 ih ho hlo ham hx hys hyl n0 hn0
    obtain ⟨g1, g2⟩ := xge ham
    obtain ⟨i1, i2, i3⟩ := ih ho (by omega) g2 ⟨Or.inl rfl, Or.inl rfl, Or.inl rfl⟩ ⟨hx, hys⟩ h2 n0 hn0
    refine ⟨i1, by omega, ?_⟩
    have e1 : n0 + (if (0 : Nat) = 0 then 0 else 1) + (vR Lv0 + vT Lv0 + vM Lv0) + vL (x :: ys) = n0 + (if (0 : Nat) = 0 then 0 else 1) + (vR x + vT x + vM x) + vL ys := by
      show n0 + 0 + 0 + (vR x + vT x + vM x + vL ys) = n0 + 0 + (vR x + vT x + vM x) + vL ys
      omega
    rw [e1] at i3; exact i3
  · intro a x ys L o e h1 ih ho hlo ham hx hys hyl n0 hn0
    obtain ⟨g1, g2⟩ := xge ham
    obtain ⟨i1, i2, i3⟩ := ih ho (by omega) g2 hx hys hyl n0 hn0
    have := v_le x; have := vL_le ys
    refine ⟨i1, by omega, show n0 + 0 + (vR x + vT x + vM x) + vL ys ≤ 66 by omega, Or.inl ⟨rfl, h1, rfl, hlo, ?_⟩⟩
    rw [show n0 + (if (0 : Nat) = 0 then 0 else 1) + (vR x + vT x + vM x) + vL ys + 1 = n0 + (if (1 : Nat) = 0 then 0 else 1) + (vR x + vT x + vM x) + vL ys by show n0 + 0 + (vR x + vT x + vM x) + vL ys + 1 = n0 + 1 + (vR x + vT x + vM x) + vL ys; omega]
    exact i3
  · intro a x ys L o e h1 h2 ih ho hlo ham hx hys hyl n0 hn0
    obtain ⟨g1, g2⟩ := xge ham
    obtain ⟨i1, i2, i3⟩ := ih ho (by omega) g2 hx hys hyl n0 hn0
    have := v_le x; have := vL_le ys
    refine ⟨i1, by omega, show n0 + 0 + (vR x + vT x + vM x) + vL ys ≤ 66 by omega, Or.inr (Or.inl ⟨rfl, h1, rfl, hlo, ?_⟩)⟩
    rw [show n0 + (if (0 : Nat) = 0 then 0 else 1) + (vR x + vT x + vM x) + vL ys + 1 = n0 + (if (1 : Nat) = 0 then 0 else 1) + (vR x + vT x + vM x) + vL ys by show n0 + 0 + (vR x + vT x + vM x) + vL ys + 1 = n0 + 1 + (vR x + vT x + vM x) + vL ys; omega]
    exact i3
  · intro a x ys L o e h1 h2 h3 ih ho hlo ham hx hys hyl n0 hn0
    obtain ⟨g1, g2⟩ := xge ham
    obtain ⟨g3, g4⟩ := xge g2
    obtain ⟨g5, g6⟩ := xge g4
    obtain ⟨i1, i2, i3⟩ := ih ho (by omega) g6 hx hys hyl n0 hn0
    have := v_le x; have := vL_le ys
    have i3' : dk C m lo 66 (n0 + 1) L (n0 + 1 + (vR x + vT x + vM x) + vL ys) := i3
    refine ⟨i1, by omega, ?_⟩
    show dk C m lo 66 (n0 + 1) _ (n0 + 0 + (vR x + vT x + vM x) + vL ys)
    generalize hv : n0 + 0 + (vR x + vT x + vM x) + vL ys = v
    rw [show n0 + 1 + (vR x + vT x + vM x) + vL ys = v + 1 + 1 - 1 by omega] at i3'
    exact ⟨by omega, Or.inr (Or.inl ⟨rfl, h1, rfl, hlo, by omega, Or.inr (Or.inl ⟨rfl, h3, rfl, (show lo ≤ nx C m (nx C m a) by omega), by omega, Or.inr (Or.inr (Or.inr (Or.inr ⟨Or.inr (Or.inr (Or.inr (Or.inl rfl))), by omega, i3'⟩)))⟩)⟩)⟩
  · intro a x ys L _ _ _ ho; cases ho
  · intro a x ys L _ _ _ ho; cases ho
  · intro a x ys L o e h1 h2 ih ho hlo ham hx hys hyl n0 hn0
    obtain ⟨g1, g2⟩ := xge ham
    have gp : nx C m a ≤ pw C m a ∧ pw C m a ≤ m := by
      unfold pw
      split
      · exact xge g2
      · exact ⟨Nat.le_refl _, g2⟩
    obtain ⟨g3, g4⟩ := xge gp.2
    obtain ⟨i1, i2, i3⟩ := ih ho (by omega) g4 hx hys hyl n0 hn0
    have := v_le x; have := vL_le ys
    exact ⟨i1, by omega, show n0 + 1 + (vR x + vT x + vM x) + vL ys ≤ 66 by omega, Or.inr (Or.inr (Or.inl ⟨rfl, h2, rfl, show 1 ≤ n0 + 1 + (vR x + vT x + vM x) + vL ys by omega, i3⟩))⟩
  · intro a x ys L _ _ ho; cases ho
  · intro a x ys L o e h1 ih ho hlo ham hx hys hyl n0 hn0
    exact ih ho hlo ham hx hys hyl n0 hn0
  · intro a x y ys L o e h1 ih ho hlo ham hx hys hyl n0 hn0
    obtain ⟨g1, g2⟩ := xge ham
    obtain ⟨i1, i2, i3⟩ := ih ho (by omega) g2 hys.1 hys.2 (Nat.le_of_succ_le hyl) n0 hn0
    have := v_le x; have := v_le y; have := vL_le ys
    have hyl' : ys.length + 1 ≤ 20 := hyl
    have i3' : dk C m lo 66 (n0 + 1) L (n0 + 1 + (vR y + vT y + vM y) + vL ys) := i3
    have e1 : vL (y :: ys) = vR y + vT y + vM y + vL ys := rfl
    refine ⟨i1, by omega, ?_⟩
    show dk C m lo 66 (n0 + 1) _ (n0 + 1 + (vR x + vT x + vM x) + vL (y :: ys))
    refine dk_1 hx (q := n0 + (vR y + vT y + vM y) + vL ys) (by rw [e1]; omega) (by rw [e1]; omega) ?_
    rw [show n0 + (vR y + vT y + vM y) + vL ys + 1 = n0 + 1 + (vR y + vT y + vM y) + vL ys by omega]
    exact i3'
  · intro a x ys L o e h1 ih ho hlo ham hx hys hyl n0 hn0
    obtain ⟨g1, g2⟩ := xge ham
    obtain ⟨i1, i2, i3⟩ := ih ho (by omega) g2 ⟨Or.inr (Or.inl rfl), Or.inl rfl, Or.inl rfl⟩ hys hyl n0 hn0
    have := v_le x; have := vL_le ys
    have i3' : dk C m lo 66 (n0 + 1) L (n0 + 0 + 1 + vL ys) := i3
    refine ⟨i1, by omega, ?_⟩
    show dk C m lo 66 (n0 + 1) _ (n0 + 1 + (vR x + vT x + vM x) + vL ys)
    refine dk_1 hx (q := n0 + vL ys) (by omega) (by omega) ?_
    rw [show n0 + vL ys + 1 = n0 + 0 + 1 + vL ys by omega]
    exact i3'
  · intro a x ys L o e h1 ih ho hlo ham hx hys hyl n0 hn0
    obtain ⟨g1, g2⟩ := xge ham
    obtain ⟨i1, i2, i3⟩ := ih ho (by omega) g2 ⟨Or.inr (Or.inr (Or.inl rfl)), Or.inl rfl, Or.inl rfl⟩ hys hyl n0 hn0
    have := v_le x; have := vL_le ys
    have i3' : dk C m lo 66 (n0 + 1) L (n0 + 0 + 1 + vL ys) := i3
    refine ⟨i1, by omega, ?_⟩
    show dk C m lo 66 (n0 + 1) _ (n0 + 1 + (vR x + vT x + vM x) + vL ys)
    refine dk_1 hx (q := n0 + vL ys) (by omega) (by omega) ?_
    rw [show n0 + vL ys + 1 = n0 + 0 + 1 + vL ys by omega]
    exact i3'
  · intro a x ys L o e h1 ih ho hlo ham hx hys hyl n0 hn0
    obtain ⟨g1, g2⟩ := xge ham
    obtain ⟨i1, i2, i3⟩ := ih ho (by omega) g2 ⟨hx.1, Or.inr (Or.inl rfl), Or.inl rfl⟩ hys hyl n0 hn0
    have := v_le x; have := vL_le ys
    have i3' : dk C m lo 66 (n0 + 1) L (n0 + 0 + (0 + 1 + vM x) + vL ys) := i3
    refine ⟨i1, by omega, ?_⟩
    show dk C m lo 66 (n0 + 1) (r3 x ++ L) (n0 + 1 + (vR x + vT x + vM x) + vL ys)
    rw [show r3 x ++ L = em x.2.2 ++ (em x.2.1 ++ L) from List.append_assoc ..]
    refine dk_R hx (by omega) (by omega) (dk_T hx (by omega) (by omega) ?_)
    rw [show n0 + 1 + (vR x + vT x + vM x) + vL ys - vR x - vT x = n0 + 0 + (0 + 1 + vM x) + vL ys by omega]
    exact i3'
  · intro a x ys L o e h1 ih ho hlo ham hx hys hyl n0 hn0
    obtain ⟨g1, g2⟩ := xge ham
    obtain ⟨i1, i2, i3⟩ := ih ho (by omega) g2 ⟨hx.1, Or.inr (Or.inr rfl), Or.inl rfl⟩ hys hyl n0 hn0
    have := v_le x; have := vL_le ys
    have i3' : dk C m lo 66 (n0 + 1) L (n0 + 0 + (0 + 1 + vM x) + vL ys) := i3
    refine ⟨i1, by omega, ?_⟩
    show dk C m lo 66 (n0 + 1) (r3 x ++ L) (n0 + 1 + (vR x + vT x + vM x) + vL ys)
    rw [show r3 x ++ L = em x.2.2 ++ (em x.2.1 ++ L) from List.append_assoc ..]
    refine dk_R hx (by omega) (by omega) (dk_T hx (by omega) (by omega) ?_)
    rw [show n0 + 1 + (vR x + vT x + vM x) + vL ys - vR x - vT x = n0 + 0 + (0 + 1 + vM x) + vL ys by omega]
    exact i3'
  · intro a x ys L o e h1 ih ho hlo ham hx hys hyl n0 hn0
    obtain ⟨i1, i2, i3⟩ := ih ho hlo ham ⟨hx.1, hx.2.1, Or.inr rfl⟩ hys hyl n0 hn0
    have := v_le x; have := vL_le ys
    have i3' : dk C m lo 66 (n0 + 1) L (n0 + 0 + (1 + vT x + vM x) + vL ys) := i3
    refine ⟨i1, by omega, ?_⟩
    show dk C m lo 66 (n0 + 1) (em x.2.2 ++ L) (n0 + 1 + (vR x + vT x + vM x) + vL ys)
    refine dk_R hx (by omega) (by omega) ?_
    rw [show n0 + 1 + (vR x + vT x + vM x) + vL ys - vR x = n0 + 0 + (1 + vT x + vM x) + vL ys by omega]
    exact i3'
  · intro a x ys h1 h2 h3 h4 h5 h6 h7 h8 ho hlo ham hx hys hyl n0 hn0
    have e0 : ys = [] := List.length_eq_zero_iff.mp (of_decide_eq_true ho)
    subst e0
    have := v_le x
    refine ⟨ham, Nat.le_refl _, ?_⟩
    show dk C m lo 66 (n0 + 1) (r1 x) (n0 + 1 + (vR x + vT x + vM x) + 0)
    rw [← List.append_nil (r1 x)]
    exact dk_1 hx (q := n0) (by omega) (by omega) rfl
theorem pm0_dk {a e : Nat} (hC : tOk C m) (pm : PM0 C m a L true e) (hlo : lo ≤ a) (ham : a ≤ m) {n0 : Nat} (hn0 : n0 ≤ 1) : e ≤ m ∧ a ≤ e ∧ dk C m lo 66 (n0 + 1) L n0 := by
  rcases pm with ⟨h1, pm⟩ | ⟨h1, pm⟩
  · have g1 : a ≤ nx C m a := Nat.le_trans (tkT_ge C m a) (nx_ge C m a)
    obtain ⟨i1, i2, i3⟩ := pm_dk (lo := lo) hC pm rfl (by omega) (nx_le hC ham) ⟨Or.inr (Or.inr (Or.inr rfl)), Or.inl rfl, Or.inl rfl⟩ trivial (by decide) n0 hn0
    exact ⟨i1, by omega, i3⟩
  · exact pm_dk (lo := lo) hC pm rfl hlo ham ⟨Or.inl rfl, Or.inl rfl, Or.inl rfl⟩ trivial (by decide) n0 hn0
end Depth
