/-! ===== how an EXPR is read: one set of rules for both sides ===== -/
abbrev Lv : Type := (Nat × Nat) × (Nat × Nat) × (Nat × Nat)
abbrev St : Type := Nat × Nat × Int32
def nx (C : Nat → Nat) (m a : Nat) : Nat := tkF C m (tkT C m a)
def em (e : Nat × Nat) : List St := if e.1 = 0 then [] else [(if e.1 = 16 then 14 else e.1, e.2, 0)]
def pw (C : Nat → Nat) (m a : Nat) : Nat := if tkK C m (nx C m a) = 45 then nx C m (nx C m a) else nx C m a
def pn (C : Nat → Nat) (m a : Nat) : Nat := dv C 0 (pw C m a) (tkT C m (pw C m a) - pw C m a)
def pg (C : Nat → Nat) (m a : Nat) : Prop := tkK C m (pw C m a) = 3 ∧ nuW C m (pw C m a) = true ∧ pn C m a ≤ 99
def pv (C : Nat → Nat) (m a : Nat) : Int32 := if tkK C m (nx C m a) = 45 then -nI (pn C m a) else nI (pn C m a)
def Lv0 : Lv := ((0, 0), (0, 0), (0, 0))
def r1 (x : Lv) : List St := em x.2.2 ++ (em x.2.1 ++ em x.1)
def r3 (x : Lv) : List St := em x.2.2 ++ em x.2.1
def r4 (x : Lv) : List St := em x.2.2
def tlen (C : Nat → Nat) (m a : Nat) : Int32 := nI (tkT C m a - a)
def PMcl (C : Nat → Nat) (m : Nat) (P : Nat → Nat → Lv → List Lv → List St → Bool → Nat → Prop) : Prop :=
  (∀ a x ys L, tkK C m a = 40 → 20 ≤ ys.length → P 0 a x ys L false a) ∧
  (∀ a x ys L o e, tkK C m a = 40 → ys.length < 20 → tkK C m (nx C m a) = 45 → P 0 (nx C m (nx C m a)) ((13, nx C m a), (0, 0), (0, 0)) (x :: ys) L o e → P 0 a x ys L o e) ∧
  (∀ a x ys L o e, tkK C m a = 40 → ys.length < 20 → tkK C m (nx C m a) ≠ 45 → P 0 (nx C m a) Lv0 (x :: ys) L o e → P 0 a x ys L o e) ∧
  (∀ a x ys L o e, tkK C m a = 2 → P 1 (nx C m a) x ys L o e → P 0 a x ys ((2, a, tlen C m a) :: L) o e) ∧
  (∀ a x ys L o e, tkK C m a = 3 → tkK C m (nx C m a) ≠ 124 → P 1 (nx C m a) x ys L o e → P 0 a x ys ((3, a, tlen C m a) :: L) o e) ∧
  (∀ a x ys L o e, tkK C m a = 3 → tkK C m (nx C m a) = 124 → tkK C m (nx C m (nx C m a)) = 3 → P 1 (nx C m (nx C m (nx C m a))) x ys L o e → P 0 a x ys ((3, a, tlen C m a) :: (3, nx C m (nx C m a), tlen C m (nx C m (nx C m a))) :: (15, nx C m a, 0) :: L) o e) ∧
  (∀ a x ys L, tkK C m a = 3 → tkK C m (nx C m a) = 124 → tkK C m (nx C m (nx C m a)) ≠ 3 → P 0 a x ys L false (nx C m (nx C m a))) ∧
  (∀ a x ys L, tkK C m a ≠ 2 → tkK C m a ≠ 3 → tkK C m a ≠ 40 → P 0 a x ys L false a) ∧
  (∀ a x ys L o e, tkK C m a = 94 → pg C m a → P 2 (nx C m (pw C m a)) x ys L o e → P 1 a x ys ((17, a, pv C m a) :: L) o e) ∧
  (∀ a x ys L, tkK C m a = 94 → ¬ pg C m a → P 1 a x ys L false (pw C m a)) ∧
  (∀ a x ys L o e, tkK C m a ≠ 94 → P 2 a x ys L o e → P 1 a x ys L o e) ∧
  (∀ a x y ys L o e, tkK C m a = 41 → P 1 (nx C m a) y ys L o e → P 2 a x (y :: ys) (r1 x ++ L) o e) ∧
  (∀ a x ys L o e, tkK C m a = 43 → P 0 (nx C m a) ((11, a), (0, 0), (0, 0)) ys L o e → P 2 a x ys (r1 x ++ L) o e) ∧
  (∀ a x ys L o e, tkK C m a = 45 → P 0 (nx C m a) ((12, a), (0, 0), (0, 0)) ys L o e → P 2 a x ys (r1 x ++ L) o e) ∧
  (∀ a x ys L o e, tkK C m a = 42 → P 0 (nx C m a) (x.1, (14, a), (0, 0)) ys L o e → P 2 a x ys (r3 x ++ L) o e) ∧
  (∀ a x ys L o e, tkK C m a = 47 → P 0 (nx C m a) (x.1, (15, a), (0, 0)) ys L o e → P 2 a x ys (r3 x ++ L) o e) ∧
  (∀ a x ys L o e, tkK C m a = 2 ∨ tkK C m a = 3 ∨ tkK C m a = 40 → P 0 a (x.1, x.2.1, (16, a)) ys L o e → P 2 a x ys (r4 x ++ L) o e) ∧
  (∀ a x ys, tkK C m a ≠ 2 → tkK C m a ≠ 3 → tkK C m a ≠ 40 → tkK C m a ≠ 42 → tkK C m a ≠ 43 → tkK C m a ≠ 45 → tkK C m a ≠ 47 → (tkK C m a = 41 → ys = []) → P 2 a x ys (r1 x) (decide (ys.length = 0)) a)
def PM (C : Nat → Nat) (m : Nat) (md a : Nat) (x : Lv) (ys : List Lv) (L : List St) (o : Bool) (e : Nat) : Prop := ∀ P, PMcl C m P → P md a x ys L o e
/-- from the token at a on, a - ahead taken -/
def PM0 (C : Nat → Nat) (m a : Nat) (L : List St) (o : Bool) (e : Nat) : Prop := (tkK C m a = 45 ∧ PM C m 0 (nx C m a) ((13, a), (0, 0), (0, 0)) [] L o e) ∨ (tkK C m a ≠ 45 ∧ PM C m 0 a Lv0 [] L o e)
section Rules
variable {C : Nat → Nat} {m a e : Nat} {x y : Lv} {ys : List Lv} {L : List St} {o : Bool}
theorem pm_1 (h1 : tkK C m a = 40) (h2 : 20 ≤ ys.length) : PM C m 0 a x ys L false a := fun _ ⟨z, _⟩ => z _ _ _ _ h1 h2
theorem pm_2 (h1 : tkK C m a = 40) (h2 : ys.length < 20) (h3 : tkK C m (nx C m a) = 45) (k : PM C m 0 (nx C m (nx C m a)) ((13, nx C m a), (0, 0), (0, 0)) (x :: ys) L o e) : PM C m 0 a x ys L o e := fun P hP => hP.2.1 _ _ _ _ _ _ h1 h2 h3 (k P hP)
theorem pm_3 (h1 : tkK C m a = 40) (h2 : ys.length < 20) (h3 : tkK C m (nx C m a) ≠ 45) (k : PM C m 0 (nx C m a) Lv0 (x :: ys) L o e) : PM C m 0 a x ys L o e := fun P hP => hP.2.2.1 _ _ _ _ _ _ h1 h2 h3 (k P hP)
theorem pm_4 (h1 : tkK C m a = 2) (k : PM C m 1 (nx C m a) x ys L o e) : PM C m 0 a x ys ((2, a, tlen C m a) :: L) o e := fun P hP => hP.2.2.2.1 _ _ _ _ _ _ h1 (k P hP)
theorem pm_5 (h1 : tkK C m a = 3) (h2 : tkK C m (nx C m a) ≠ 124) (k : PM C m 1 (nx C m a) x ys L o e) : PM C m 0 a x ys ((3, a, tlen C m a) :: L) o e := fun P hP => hP.2.2.2.2.1 _ _ _ _ _ _ h1 h2 (k P hP)
theorem pm_6 (h1 : tkK C m a = 3) (h2 : tkK C m (nx C m a) = 124) (h3 : tkK C m (nx C m (nx C m a)) = 3) (k : PM C m 1 (nx C m (nx C m (nx C m a))) x ys L o e) : PM C m 0 a x ys ((3, a, tlen C m a) :: (3, nx C m (nx C m a), tlen C m (nx C m (nx C m a))) :: (15, nx C m a, 0) :: L) o e := fun P hP => hP.2.2.2.2.2.1 _ _ _ _ _ _ h1 h2 h3 (k P hP)
theorem pm_7 (h1 : tkK C m a = 3) (h2 : tkK C m (nx C m a) = 124) (h3 : tkK C m (nx C m (nx C m a)) ≠ 3) : PM C m 0 a x ys L false (nx C m (nx C m a)) := fun P hP => hP.2.2.2.2.2.2.1 _ _ _ _ h1 h2 h3
theorem pm_8 (h1 : tkK C m a ≠ 2) (h2 : tkK C m a ≠ 3) (h3 : tkK C m a ≠ 40) : PM C m 0 a x ys L false a := fun P hP => hP.2.2.2.2.2.2.2.1 _ _ _ _ h1 h2 h3
theorem pm_9 (h1 : tkK C m a = 94) (h2 : pg C m a) (k : PM C m 2 (nx C m (pw C m a)) x ys L o e) : PM C m 1 a x ys ((17, a, pv C m a) :: L) o e := fun P hP => hP.2.2.2.2.2.2.2.2.1 _ _ _ _ _ _ h1 h2 (k P hP)
theorem pm_10 (h1 : tkK C m a = 94) (h2 : ¬ pg C m a) : PM C m 1 a x ys L false (pw C m a) := fun P hP => hP.2.2.2.2.2.2.2.2.2.1 _ _ _ _ h1 h2
theorem pm_11 (h1 : tkK C m a ≠ 94) (k : PM C m 2 a x ys L o e) : PM C m 1 a x ys L o e := fun P hP => hP.2.2.2.2.2.2.2.2.2.2.1 _ _ _ _ _ _ h1 (k P hP)
theorem pm_12 (h1 : tkK C m a = 41) (k : PM C m 1 (nx C m a) y ys L o e) : PM C m 2 a x (y :: ys) (r1 x ++ L) o e := fun P hP => hP.2.2.2.2.2.2.2.2.2.2.2.1 _ _ _ _ _ _ _ h1 (k P hP)
theorem pm_13 (h1 : tkK C m a = 43) (k : PM C m 0 (nx C m a) ((11, a), (0, 0), (0, 0)) ys L o e) : PM C m 2 a x ys (r1 x ++ L) o e := fun P hP => hP.2.2.2.2.2.2.2.2.2.2.2.2.1 _ _ _ _ _ _ h1 (k P hP)
theorem pm_14 (h1 : tkK C m a = 45) (k : PM C m 0 (nx C m a) ((12, a), (0, 0), (0, 0)) ys L o e) : PM C m 2 a x ys (r1 x ++ L) o e := fun P hP => hP.2.2.2.2.2.2.2.2.2.2.2.2.2.1 _ _ _ _ _ _ h1 (k P hP)
theorem pm_15 (h1 : tkK C m a = 42) (k : PM C m 0 (nx C m a) (x.1, (14, a), (0, 0)) ys L o e) : PM C m 2 a x ys (r3 x ++ L) o e := fun P hP => hP.2.2.2.2.2.2.2.2.2.2.2.2.2.2.1 _ _ _ _ _ _ h1 (k P hP)
theorem pm_16 (h1 : tkK C m a = 47) (k : PM C m 0 (nx C m a) (x.1, (15, a), (0, 0)) ys L o e) : PM C m 2 a x ys (r3 x ++ L) o e := fun P hP => hP.2.2.2.2.2.2.2.2.2.2.2.2.2.2.2.1 _ _ _ _ _ _ h1 (k P hP)
theorem pm_17 (h1 : tkK C m a = 2 ∨ tkK C m a = 3 ∨ tkK C m a = 40) (k : PM C m 0 a (x.1, x.2.1, (16, a)) ys L o e) : PM C m 2 a x ys (r4 x ++ L) o e := fun P hP => hP.2.2.2.2.2.2.2.2.2.2.2.2.2.2.2.2.1 _ _ _ _ _ _ h1 (k P hP)
theorem pm_18 (h1 : tkK C m a ≠ 2) (h2 : tkK C m a ≠ 3) (h3 : tkK C m a ≠ 40) (h4 : tkK C m a ≠ 42) (h5 : tkK C m a ≠ 43) (h6 : tkK C m a ≠ 45) (h7 : tkK C m a ≠ 47) (h8 : tkK C m a = 41 → ys = []) : PM C m 2 a x ys (r1 x) (decide (ys.length = 0)) a := fun P hP => hP.2.2.2.2.2.2.2.2.2.2.2.2.2.2.2.2.2 _ _ _ h1 h2 h3 h4 h5 h6 h7 h8
theorem nx_ge (C : Nat → Nat) (m a : Nat) : tkT C m a ≤ nx C m a := tkF_ge _ _ _
theorem nx_gt (h : a < m) : a < nx C m a := Nat.lt_of_lt_of_le (tkT_gt h) (nx_ge C m a)
theorem nx_le (hC : tOk C m) (h : a ≤ m) : nx C m a ≤ m := tkF_le (tkT_le hC h)
theorem nx_self (h : a ≤ nx C m a) : a ≤ nx C m a := h
theorem cA_0 : cA 0 = false := by decide
theorem cD_0 : cD 0 = false := by decide
theorem kD {q : Nat} (h : tkK C m q = 3) : cD (C q) = true := (nt_a h).2.1
theorem kN {q : Nat} (h : tkK C m q = 2) : q < m ∧ cL (C q) = true ∧ tkT C m q = rnd cA C m q ∧ rnd cA C m q - q ≤ 24 := by
  have h0 := tkK_lt (C := C) (m := m) (a := q) (by omega)
  unfold tkK at h
  rw [if_neg (by omega)] at h
  by_cases z1 : cL (C q) = true
  · rw [if_pos z1] at h
    split at h
    · omega
    · exact ⟨h0, z1, by unfold tkT; rw [if_neg (by omega), if_pos z1], by omega⟩
  rw [if_neg z1] at h
  by_cases z2 : cD (C q) = true
  · rw [if_pos z2] at h; have := nuK_or C m q; omega
  rw [if_neg z2] at h
  by_cases z3 : cS (C q) = true
  · rw [if_pos z3] at h; have := cS_gt z3; omega
  · rw [if_neg z3] at h; omega
/-- behind a NAME or a NUMBER no byte can go on -/
theorem adjN (hC : tOk C m) (h : tkK C m a = 2) (h2 : nx C m a = tkT C m a) : tkK C m (nx C m a) ≠ 2 ∧ tkK C m (nx C m a) ≠ 3 := by
  obtain ⟨h0, hL, hT, -⟩ := kN h
  have z := rnd_end (q := a) hC cA_0
  rw [h2, hT]
  refine ⟨fun w => ?_, fun w => ?_⟩
  · have := cA_iff.mpr (Or.inl (kN w).2.1); rw [z] at this; cases this
  · have := cA_iff.mpr (Or.inr (kD w)); rw [z] at this; cases this
theorem adjD (hC : tOk C m) (h : tkK C m a = 3) (h2 : nx C m a = tkT C m a) : tkK C m (nx C m a) ≠ 3 := by
  obtain ⟨h0, hc, -, -, hT⟩ := nt_a h
  rw [h2, hT]
  intro w
  have w' := kD w
  have e1 : cD (C (nu1 C m a)) = false := rnd_end hC cD_0
  have e2 : cD (C (nu2 C m a)) = false := by
    unfold nu2
    split
    · exact rnd_end hC cD_0
    · exact e1
  have e3 : cD (C (nu3 C m a)) = false := by
    unfold nu3
    split
    · exact rnd_end hC cD_0
    · exact e2
  rw [e3] at w'
  cases w'
end Rules
theorem dv_mono {C : Nat → Nat} {N p : Nat} : ∀ j k, dv C N p k ≤ dv C N p (k + j)
  | 0, _ => Nat.le_refl _
  | j + 1, k => by
    have := dv_mono (C := C) (N := N) (p := p) j k
    show _ ≤ dv C N p (k + j) * 10 + (C (p + (k + j)) - 48)
    omega
theorem nuW_d {C : Nat → Nat} {m a i : Nat} (h : nuW C m a = true) (h1 : a ≤ i) (h2 : i < nu3 C m a) : cD (C i) = true := by
  unfold nuW at h
  have hp : nuP C m a = false := by cases e : nuP C m a with | false => rfl | true => rw [e] at h; cases h
  have he : nuE C m a = false := by cases e : nuE C m a with | false => rfl | true => rw [e, hp] at h; cases h
  have : nu3 C m a = nu1 C m a := by unfold nu3 nu2; rw [if_neg (by rw [he]; decide), if_neg (by rw [hp]; decide)]
  rw [this] at h2
  exact rnd_all h1 h2
section UpTo
variable {g : xG} {l : Launch} {h : xH} {J : Nat → Nat → Int32} {Q : Option Value → xH → Prop} {tk tx m : Nat} {C : Nat → Nat}
theorem c_numberUpTo {a : Nat} (hk : CK h tk tx) (hT : TJ J tk tx C m) (hS : TS J tk C m a) (h3 : tkK C m a = 3) (hw : nuW C m a = true) (k : Q (some (.int (nI (min (dv C 0 a (tkT C m a - a)) 100)))) (xJ h J)) : ac g l mX8_numberUpTo [.ref tk, .int (nI 99)] (xJ h J) Q := by
  refine ac_of (by decide) (Nat.le_of_ble_eq_true rfl) ?_
  have hk' := hk
  obtain ⟨t1, p1, t2⟩ := hk
  have hC := hT.2.2.1
  have hm := hT.2.1
  obtain ⟨s4, s3, s2, -⟩ := hS
  obtain ⟨ham, -, -, -, eT⟩ := nt_a h3
  have n3 : nu3 C m a ≤ m := nu3_le hC (by omega)
  have ha3 : a < nu3 C m a := by rw [← eT]; exact tkT_gt ham
  rw [eT] at s2 k
  refine nX8_numberUpTo_0 ?_
  refine sX8_numberUpTo_1 ?_
  refine sX8_numberUpTo_2 rfl ?_
  refine jX8_numberUpTo_3 (by assumption) ?_
  rw [s4]
  refine sX8_numberUpTo_6 ?_
  suffices H : ∀ f i lv0, i + f = nu3 C m a → a ≤ i → (∀ z ∈ ([(0, .ref tk), (1, .int (nI 99)), (2, .int (nI (min (dv C 0 a (i - a)) 100))), (3, .int (nI i))] : List (Nat × Value)), z ∈ lv0) → aw g l mX8_numberUpTo 7 lv0 [] (xJ h J) Q from H (nu3 C m a - a) a _ (by omega) (Nat.le_refl _) (by rw [Nat.sub_self]; exact (fun z hz => by simp only [List.mem_cons, List.not_mem_nil, or_false] at hz; rcases hz with rfl | rfl | rfl | rfl <;> exact xlk_mem rfl))
  intro f
  induction f with
  | zero =>
    intro i lv0 hi hai hlv
    refine aw_lv hlv ?_
    refine sX8_numberUpTo_7 rfl ?_
    refine sX8_numberUpTo_8 rfl ?_
    refine jX8_numberUpTo_9 (by assumption) ?_
    rw [s2]
    refine nX8_numberUpTo_12 (by omega) (by omega) (fun _ => ?_) (fun z => absurd z (by omega))
    refine sX8_numberUpTo_46 rfl ?_
    rw [show i = nu3 C m a by omega]
    exact sX8_numberUpTo_47 k
  | succ f ih =>
    intro i lv0 hi hai hlv
    refine aw_lv hlv ?_
    refine sX8_numberUpTo_7 rfl ?_
    refine sX8_numberUpTo_8 rfl ?_
    refine jX8_numberUpTo_9 (by assumption) ?_
    rw [s2]
    refine nX8_numberUpTo_12 (by omega) (by omega) (fun z => absurd z (by omega)) (fun _ => ?_)
    refine sX8_numberUpTo_15 rfl ?_
    refine sX8_numberUpTo_16 rfl ?_
    refine nX8_numberUpTo_17 (by omega) (by omega) (fun z => ?_) (fun z => ?_)
    · refine sX8_numberUpTo_46 rfl ?_
      have := dv_mono (C := C) (N := 0) (p := a) (f + 1) (i - a)
      rw [show i - a + (f + 1) = nu3 C m a - a by omega] at this
      rw [show min (dv C 0 a (i - a)) 100 = min (dv C 0 a (nu3 C m a - a)) 100 by omega]
      exact sX8_numberUpTo_47 k
    · obtain ⟨d1, d2, d3⟩ := cD_sb (nuW_d hw hai (by omega))
      have e : dv C 0 a (i + 1 - a) = dv C 0 a (i - a) * 10 + (C i - 48) := by
        rw [show i + 1 - a = i - a + 1 by omega]
        show dv C 0 a (i - a) * 10 + (C (a + (i - a)) - 48) = _
        rw [show a + (i - a) = i by omega]
      rw [show min (dv C 0 a (i - a)) 100 = dv C 0 a (i - a) by omega]
      refine sX8_numberUpTo_20 rfl ?_
      refine nX8_numberUpTo_21 ?_
      refine nX8_numberUpTo_23 ?_
      refine sX8_numberUpTo_24 rfl ?_
      refine sX8_numberUpTo_25 rfl ?_
      refine jX8_numberUpTo_26 (Nat.le_of_ble_eq_true rfl) (by assumption) ?_
      refine c_byteAt8 hk' hT (by omega) ?_
      rw [d1]
      refine nX8_numberUpTo_29 ?_
      refine nX8_numberUpTo_30 ?_
      refine nX8_numberUpTo_32 (by omega) ?_
      refine sX8_numberUpTo_33 rfl ?_
      refine nX8_numberUpTo_34 ?_
      refine nX8_numberUpTo_35 ?_
      refine mX8_numberUpTo_36n (Nat.le_of_ble_eq_true rfl) (by omega) (by omega) ?_
      refine sX8_numberUpTo_39 ?_
      refine nX8_numberUpTo_40 rfl ?_
      refine sX8_numberUpTo_43 ?_
      refine ih (i + 1) _ (by omega) (by omega) ?_
      rw [e, show dv C 0 a (i - a) * 10 + (C i - 48) = dv C 0 a (i - a) * 10 + C i - 48 by omega]
      exact (fun z hz => by simp only [List.mem_cons, List.not_mem_nil, or_false] at hz; rcases hz with rfl | rfl | rfl | rfl <;> exact xlk_mem rfl)
end UpTo
