/-! ===== lines of a FILE: what they tell, for both sides ===== -/
theorem rnd_idem {P : Nat → Bool} {C : Nat → Nat} {m q : Nat} : rnd P C m (rnd P C m q) = rnd P C m q := by
  refine rnd_stop ?_
  rcases Nat.lt_or_ge (rnd P C m q) m with h | h
  · refine Or.inl (rn_end P C (m - q) q ?_)
    have h1 := (rn_ge P C (m - q) q).1
    have h' : rn P C (m - q) q < m := h
    omega
  · exact Or.inr h
theorem nxF {C : Nat → Nat} {m b : Nat} : tkF C m (nx C m b) = nx C m b := rnd_idem
theorem pwF {C : Nat → Nat} {m a : Nat} : tkF C m (pw C m a) = pw C m a := by
  unfold pw; split <;> exact nxF
theorem nx_a (C : Nat → Nat) (m a : Nat) : a ≤ nx C m a := Nat.le_trans (tkT_ge C m a) (nx_ge C m a)
theorem pw_a (C : Nat → Nat) (m a : Nat) : a ≤ pw C m a := by
  unfold pw; split
  · exact Nat.le_trans (nx_a C m a) (nx_a C m _)
  · exact nx_a C m a
theorem pm_tk {C : Nat → Nat} {m md a e : Nat} {x : Lv} {ys : List Lv} {L : List St} {o : Bool} (pm : PM C m md a x ys L o e) : tkF C m a = a → tkF C m e = e :=
  pm (fun _ a _ _ _ _ e => tkF C m a = a → tkF C m e = e) ⟨fun _ _ _ _ _ _ h => h, fun _ _ _ _ _ _ _ _ _ k _ => k nxF, fun _ _ _ _ _ _ _ _ _ k _ => k nxF, fun _ _ _ _ _ _ _ k _ => k nxF, fun _ _ _ _ _ _ _ _ k _ => k nxF, fun _ _ _ _ _ _ _ _ _ k _ => k nxF, fun _ _ _ _ _ _ _ _ => nxF, fun _ _ _ _ _ _ _ h => h, fun _ _ _ _ _ _ _ _ k _ => k nxF, fun _ _ _ _ _ _ _ => pwF, fun _ _ _ _ _ _ _ k h => k h, fun _ _ _ _ _ _ _ _ k _ => k nxF, fun _ _ _ _ _ _ _ k _ => k nxF, fun _ _ _ _ _ _ _ k _ => k nxF, fun _ _ _ _ _ _ _ k _ => k nxF, fun _ _ _ _ _ _ _ k _ => k nxF, fun _ _ _ _ _ _ _ k h => k h, fun _ _ _ _ _ _ _ _ _ _ _ h => h⟩
theorem pm_ge {C : Nat → Nat} {m md a e : Nat} {x : Lv} {ys : List Lv} {L : List St} {o : Bool} (pm : PM C m md a x ys L o e) : a ≤ e :=
  pm (fun _ a _ _ _ _ e => a ≤ e) ⟨fun _ _ _ _ _ _ => Nat.le_refl _, fun a _ _ _ _ _ _ _ _ k => Nat.le_trans (Nat.le_trans (nx_a C m a) (nx_a C m _)) k, fun a _ _ _ _ _ _ _ _ k => Nat.le_trans (nx_a C m a) k, fun a _ _ _ _ _ _ k => Nat.le_trans (nx_a C m a) k, fun a _ _ _ _ _ _ _ k => Nat.le_trans (nx_a C m a) k, fun a _ _ _ _ _ _ _ _ k => Nat.le_trans (Nat.le_trans (nx_a C m a) (Nat.le_trans (nx_a C m _) (nx_a C m _))) k, fun a _ _ _ _ _ _ => Nat.le_trans (nx_a C m a) (nx_a C m _), fun _ _ _ _ _ _ _ => Nat.le_refl _, fun a _ _ _ _ _ _ _ k => Nat.le_trans (Nat.le_trans (pw_a C m a) (nx_a C m _)) k, fun a _ _ _ _ _ => pw_a C m a, fun _ _ _ _ _ _ _ k => k, fun a _ _ _ _ _ _ _ k => Nat.le_trans (nx_a C m a) k, fun a _ _ _ _ _ _ k => Nat.le_trans (nx_a C m a) k, fun a _ _ _ _ _ _ k => Nat.le_trans (nx_a C m a) k, fun a _ _ _ _ _ _ k => Nat.le_trans (nx_a C m a) k, fun a _ _ _ _ _ _ k => Nat.le_trans (nx_a C m a) k, fun _ _ _ _ _ _ _ k => k, fun _ _ _ _ _ _ _ _ _ _ _ => Nat.le_refl _⟩
theorem pm0_tk {C : Nat → Nat} {m a e : Nat} {L : List St} {o : Bool} (pm : PM0 C m a L o e) (h : tkF C m a = a) : tkF C m e = e := by
  rcases pm with ⟨-, pm⟩ | ⟨-, pm⟩
  · exact pm_tk pm nxF
  · exact pm_tk pm h
theorem pm0_ge {C : Nat → Nat} {m a e : Nat} {L : List St} {o : Bool} (pm : PM0 C m a L o e) : a ≤ e := by
  rcases pm with ⟨-, pm⟩ | ⟨-, pm⟩
  · exact Nat.le_trans (nx_a C m a) (pm_ge pm)
  · exact pm_ge pm
/-- a text that ends at m -/
def cT (T : Nat → Nat) (m q : Nat) : Nat := if q < m then T q else 0
theorem cT_in {T : Nat → Nat} {m q : Nat} (h : q < m) : cT T m q = T q := if_pos h
theorem cT_ok {T : Nat → Nat} {m : Nat} (hT : ∀ q, q < 10240 → T q < 256) (hm : m ≤ 10240) : tOk (cT T m) m := by
  refine ⟨by omega, fun q hq => if_neg (by omega), fun q => ?_⟩
  unfold cT
  split
  · exact hT q (by omega)
  · omega
/-- the sort that a line tells: 2 PREFIX, 0 BASE, 1 MEASURE -/
def lkS (C : Nat → Nat) (m a : Nat) : Nat := if C (tkT C m a) = 45 then 2 else if tkK C m (nx C m a) = 33 then 0 else 1
def lkX (C : Nat → Nat) (m a : Nat) : Nat := if C (tkT C m a) = 45 then nx C m (nx C m a) else nx C m a
def lkQ (C : Nat → Nat) (m a : Nat) : Nat := if C (tkT C m a) = 45 then tkT C m a + 1 else tkT C m a
def lGood (C : Nat → Nat) (m a : Nat) (L : List St) (e : Nat) : Prop := (lkS C m a = 0 ∧ tkK C m (nx C m (nx C m a)) = 0 ∧ L = [] ∧ e = nx C m (nx C m a)) ∨ (lkS C m a ≠ 0 ∧ PM0 C m (lkX C m a) L true e ∧ tkK C m e = 0)
def lTw (C : Nat → Nat) (m a c : Nat) (D : Nat → Df) : Prop := fd (pG (fso D) (fln D) (fnm D) (decide (lkS C m a = 2)) C a (tkT C m a - a)) 0 c ≠ none
def lMu (C : Nat → Nat) (m a c : Nat) (D : Nat → Df) : Prop := 100 ≤ c ∨ lkS C m a = 0 ∧ 8 ≤ nb (fso D) c
def lRec (C : Nat → Nat) (m a c : Nat) (D : Nat → Df) (L : List St) (e : Nat) : Df := ((lkS C m a, tkT C m a - a, a, fun i => C (a + i)), (nb (fso D) c, eO (fce D) c, L), (C, m), (eO (ftt D) c, if lkS C m a = 0 then eO (ftt D) c else eO (ftt D) c + (m - lkQ C m a), lkQ C m a - eO (ftt D) c, e), m)
/-- a line with a FAULT f at p -/
def LB (C : Nat → Nat) (fr m a c : Nat) (D : Nat → Df) (f p : Nat) : Prop := tkK C m a ≠ 0 ∧ ((tkK C m a ≠ 2 ∧ f = 1 ∧ p = a - fr) ∨ (tkK C m a = 2 ∧ ((lkS C m a = 0 ∧ tkK C m (nx C m (nx C m a)) ≠ 0 ∧ f = 1 ∧ p = nx C m (nx C m a) - fr) ∨ (lkS C m a ≠ 0 ∧ ∃ L e, PM0 C m (lkX C m a) L false e ∧ f = 1 ∧ p = e - fr) ∨ (lkS C m a ≠ 0 ∧ ∃ L e, PM0 C m (lkX C m a) L true e ∧ tkK C m e ≠ 0 ∧ f = 1 ∧ p = e - fr) ∨ ((∃ L e, lGood C m a L e) ∧ lTw C m a c D ∧ f = 2 ∧ p = a - fr) ∨ ((∃ L e, lGood C m a L e) ∧ ¬ lTw C m a c D ∧ lMu C m a c D ∧ f = 3 ∧ p = a - fr))))
/-- a line without: nothing, or one DEFINITION more -/
def LO (C : Nat → Nat) (m a c : Nat) (D : Nat → Df) (c1 : Nat) (D1 : Nat → Df) : Prop := (tkK C m a = 0 ∧ c1 = c ∧ D1 = D) ∨ (tkK C m a = 2 ∧ ∃ L e, lGood C m a L e ∧ ¬ lTw C m a c D ∧ ¬ lMu C m a c D ∧ 3 * (eO (fce D) c + L.length) ≤ 4 * m ∧ c1 = c + 1 ∧ D1 = va_up D c (lRec C m a c D L e))
/-- where a line's text ends: at byte 35, 10 or the end -/
def lnM (T : Nat → Nat) (s to : Nat) : Nat := utl T s (utl T s to 10) 35
def lnA (T : Nat → Nat) (s to : Nat) : Nat := tkF (cT T (lnM T s to)) (lnM T s to) s
/-- lines from s on: the first FAULT, or all DEFINITIONS -/
def RF (T : Nat → Nat) (fr to : Nat) : Nat → Nat → Nat → (Nat → Df) → Option (Nat × Nat) → Nat → (Nat → Df) → Prop
  | 0, s, c, D, res, c', D' => to < s ∧ res = none ∧ c' = c ∧ D' = D
  | n + 1, s, c, D, res, c', D' => s ≤ to ∧ ((∃ f p, LB (cT T (lnM T s to)) fr (lnM T s to) (lnA T s to) c D f p ∧ res = some (f, p) ∧ c' = c ∧ D' = D) ∨ ∃ c1 D1, LO (cT T (lnM T s to)) (lnM T s to) (lnA T s to) c D c1 D1 ∧ RF T fr to n (utl T s to 10 + 1) c1 D1 res c' D')
theorem LO_pre {C : Nat → Nat} {m a c c1 : Nat} {D D1 : Nat → Df} (h : LO C m a c D c1 D1) : c ≤ c1 ∧ c1 ≤ c + 1 ∧ ∀ k, k < c → D1 k = D k := by
  rcases h with ⟨-, e1, e2⟩ | ⟨-, L, e, -, -, -, -, e1, e2⟩
  · rw [e1, e2]; exact ⟨Nat.le_refl _, Nat.le_succ _, fun _ _ => rfl⟩
  · rw [e1, e2]; exact ⟨Nat.le_succ _, Nat.le_refl _, fun k hk => vup_n (by omega)⟩
theorem RF_pre {T : Nat → Nat} {fr to : Nat} : ∀ {n s c : Nat} {D : Nat → Df} {res : Option (Nat × Nat)} {c' : Nat} {D' : Nat → Df}, RF T fr to n s c D res c' D' → c ≤ c' ∧ ∀ k, k < c → D' k = D k
  | 0, s, c, D, res, c', D', ⟨_, _, e1, e2⟩ => by rw [e1, e2]; exact ⟨Nat.le_refl _, fun _ _ => rfl⟩
  | n + 1, s, c, D, res, c', D', ⟨_, h⟩ => by
    rcases h with ⟨f, p, -, -, e1, e2⟩ | ⟨c1, D1, h1, h2⟩
    · rw [e1, e2]; exact ⟨Nat.le_refl _, fun _ _ => rfl⟩
    · obtain ⟨a1, -, a2⟩ := LO_pre h1
      obtain ⟨b1, b2⟩ := RF_pre h2
      exact ⟨by omega, fun k hk => (b2 k (by omega)).trans (a2 k hk)⟩
theorem utl_ge (T : Nat → Nat) (a m x : Nat) : a ≤ utl T a m x := rnd_ge _ _ _ _
theorem utl_le {T : Nat → Nat} {a m x : Nat} (h : a ≤ m) : utl T a m x ≤ m := rnd_le h
theorem lnM_ge (T : Nat → Nat) (s to : Nat) : s ≤ lnM T s to := utl_ge _ _ _ _
theorem lnM_le {T : Nat → Nat} {s to : Nat} (h : s ≤ to) : lnM T s to ≤ utl T s to 10 ∧ utl T s to 10 ≤ to := ⟨utl_le (utl_ge _ _ _ _), utl_le h⟩
section Line0
variable {C : Nat → Nat} {m a : Nat}
theorem nx_45 (hC : tOk C m) (h : C (tkT C m a) = 45) : tkT C m a < m ∧ nx C m a = tkT C m a ∧ tkK C m (nx C m a) = 45 ∧ tkT C m (nx C m a) = tkT C m a + 1 := by
  have h1 : tkT C m a < m := by
    rcases Nat.lt_or_ge (tkT C m a) m with z | z
    · exact z
    · rw [hC.2.1 _ z] at h; cases h
  have h2 : nx C m a = tkT C m a := rnd_stop (Or.inl (by rw [h]; rfl))
  refine ⟨h1, h2, ?_, ?_⟩
  · rw [h2]; unfold tkK; rw [if_neg (by omega), h]; rfl
  · rw [h2]
    show (if m ≤ tkT C m a then tkT C m a else if cL (C (tkT C m a)) = true then _ else if cD (C (tkT C m a)) = true then _ else tkT C m a + 1) = tkT C m a + 1
    rw [if_neg (by omega), h]; rfl
theorem lkX_Q (hC : tOk C m) : lkX C m a = tkF C m (lkQ C m a) := by
  unfold lkX lkQ
  by_cases z : C (tkT C m a) = 45
  · rw [if_pos z, if_pos z]
    show tkF C m (tkT C m (nx C m a)) = _
    rw [(nx_45 hC z).2.2.2]
  · rw [if_neg z, if_neg z]; rfl
theorem lkX_F : tkF C m (lkX C m a) = lkX C m a := by unfold lkX; split <;> exact nxF
theorem lkQ_le (hC : tOk C m) (ham : a ≤ m) : a ≤ lkQ C m a ∧ lkQ C m a ≤ m := by
  unfold lkQ
  have h1 := tkT_ge C m a
  have h2 := tkT_le hC ham
  split
  · rename_i z; have := (nx_45 hC z).1; omega
  · omega
theorem lkX_gt (hC : tOk C m) (ham : a < m) : a < lkX C m a ∧ lkX C m a ≤ m := by
  unfold lkX
  have h1 := nx_gt (C := C) ham
  have h2 := nx_le hC (Nat.le_of_lt ham)
  split
  · exact ⟨Nat.lt_of_lt_of_le h1 (nx_a C m _), nx_le hC h2⟩
  · exact ⟨h1, h2⟩
theorem lkS_2 : lkS C m a = 2 ↔ C (tkT C m a) = 45 := by
  unfold lkS
  by_cases z : C (tkT C m a) = 45
  · rw [if_pos z]; exact ⟨fun _ => z, fun _ => rfl⟩
  · rw [if_neg z]; refine ⟨fun h => ?_, fun h => absurd h z⟩; split at h <;> omega
theorem lkS_0 : lkS C m a = 0 ↔ C (tkT C m a) ≠ 45 ∧ tkK C m (nx C m a) = 33 := by
  unfold lkS
  by_cases z : C (tkT C m a) = 45
  · rw [if_pos z]; exact ⟨fun h => by omega, fun h => absurd z h.1⟩
  · rw [if_neg z]
    by_cases y : tkK C m (nx C m a) = 33
    · rw [if_pos y]; exact ⟨fun _ => ⟨z, y⟩, fun _ => rfl⟩
    · rw [if_neg y]; exact ⟨fun h => by omega, fun h => absurd h.2 y⟩
theorem lkS_le : lkS C m a ≤ 2 := by unfold lkS; split; omega; split <;> omega
theorem rec_f {c : Nat} {D : Nat → Df} {L : List St} {e : Nat} {D1 : Nat → Df} (h : D1 = va_up D c (lRec C m a c D L e)) : fso D1 c = lkS C m a ∧ fln D1 c = tkT C m a - a ∧ fnp D1 c = a ∧ fnm D1 c = (fun i => C (a + i)) ∧ fbn D1 c = nb (fso D) c ∧ fcs D1 c = eO (fce D) c ∧ fLk D1 c = L ∧ fCk D1 c = C ∧ fmk D1 c = m ∧ ftf D1 c = eO (ftt D) c ∧ ftt D1 c = (if lkS C m a = 0 then eO (ftt D) c else eO (ftt D) c + (m - lkQ C m a)) ∧ fdd D1 c = lkQ C m a - eO (ftt D) c ∧ fek D1 c = e ∧ fte D1 c = m ∧ fce D1 c = eO (fce D) c + L.length := by
  unfold fce fso fln fnp fnm fbn fcs fLk fCk fmk ftf ftt fdd fek fte
  rw [h, vup_s]
  exact ⟨rfl, rfl, rfl, rfl, rfl, rfl, rfl, rfl, rfl, rfl, rfl, rfl, rfl, rfl, rfl⟩
/-- the book with one more -/
theorem LO_DB {c : Nat} {D D1 : Nat → Df} {L : List St} {e : Nat} (hC : tOk C m) (hm : m ≤ 10240) (hD : DB c D) (hte : eO (fte D) c ≤ a) (h2 : tkK C m a = 2) (hg : lGood C m a L e) (hT : ¬ lTw C m a c D) (hM : ¬ lMu C m a c D) (hl : 3 * (eO (fce D) c + L.length) ≤ 4 * m) (hr : D1 = va_up D c (lRec C m a c D L e)) : DB (c + 1) D1 := by
  have hpre : ∀ k, k < c → D1 k = D k := fun k hk => by rw [hr]; exact vup_n (by omega)
  have es : ∀ k, k < c → fso D1 k = fso D k := fun k hk => (f_c (hpre k hk)).1
  obtain ⟨e1, e2, e3, e4, e5, e6, e7, e8, e9, e10, e11, e12, e13, e14, e15⟩ := rec_f hr
  obtain ⟨n1, n2, n3, n4⟩ := kN h2
  have t1 := tkT_gt (C := C) n1
  have t2 := tkT_le hC (Nat.le_of_lt n1)
  obtain ⟨q1, q2⟩ := lkQ_le hC (Nat.le_of_lt n1)
  have htt := DB_tt hD
  have mu1 : c < 100 := by unfold lMu at hM; omega
  have mu2 : lkS C m a = 0 → nb (fso D) c < 8 := fun z => by unfold lMu at hM; omega
  have en : nb (fso D1) c = nb (fso D) c := nb_c es (Nat.le_refl _)
  have ea : eO (fte D1) c = eO (fte D) c := eO_c (c := c) (fun j hj => (f_c (hpre j hj)).2.2.2.2.2.2.2.2.2.2.2.2.2.1) (Nat.le_refl _)
  have eb : eO (ftt D1) c = eO (ftt D) c := eO_c (c := c) (fun j hj => (f_c (hpre j hj)).2.2.2.2.2.2.2.2.2.2.1) (Nat.le_refl _)
  have ec : eO (fce D1) c = eO (fce D) c := eO_c (c := c) (fun j hj => (f_c (hpre j hj)).2.2.2.2.2.2.2.2.2.2.2.2.2.2) (Nat.le_refl _)
  have htt1 : ftt D1 c ≤ m ∧ eO (ftt D) c ≤ ftt D1 c := by rw [e11]; split <;> omega
  refine DB_push (DB_c hpre hD) mu1 ?_ ?_ ?_ (by rw [e5, en]) (fun k hk hh => ?_)
  · refine ⟨by rw [e1]; exact lkS_le, by rw [e2]; omega, by rw [e3, e2, e14]; omega, fun i _ => by rw [e4]; exact hC.2.2 _, fun z => by rw [e1] at z; rw [e5]; exact mu2 z, by rw [e9, e14]; exact Nat.le_refl _, by rw [e14]; exact hm, by rw [e14]; exact htt1.1, by rw [e15, e14]; exact hl, fun z => ?_⟩
    rw [e1] at z
    rw [e7, e8, e9, e10, e11, e12, e13, if_neg z]
    rcases hg with ⟨g1, -⟩ | ⟨-, g2, -⟩
    · exact absurd g1 z
    · have hx := lkX_gt hC n1
      refine ⟨hC, (pm0_dk (lo := 0) hC g2 (Nat.zero_le _) hx.2 (n0 := 0) (by omega)).2.2, by omega, by omega, ?_⟩
      rw [show eO (ftt D) c + (lkQ C m a - eO (ftt D) c) = lkQ C m a by omega, ← lkX_Q hC]
      exact g2
  · rw [ea, eb, ec, e14, e15]
    exact ⟨by omega, htt1.2, by omega⟩
  · show nb (fso D1) c + (if fso D1 c = 0 then 1 else 0) ≤ 8
    rw [en, e1]
    have := hD.2.2.2.1
    split
    · rename_i z; have := mu2 z; omega
    · omega
  · obtain ⟨b1, b2, b3⟩ := hh
    rw [es k hk, e1] at b1
    rw [(f_c (hpre k hk)).2.1, e2] at b2
    rw [(f_c (hpre k hk)).2.1, (f_c (hpre k hk)).2.2.2.1, e4] at b3
    refine hT (fun z => ?_)
    have := fd_none.mp z k (Nat.zero_le _) (by omega)
    have hp : pG (fso D) (fln D) (fnm D) (decide (lkS C m a = 2)) C a (tkT C m a - a) k = true := by
      unfold pG
      rw [show decide (fso D k = 2) = decide (lkS C m a = 2) from decide_eq_decide.mpr b1, nq_iff.mpr ⟨b2, fun i hi => b3 i (by omega)⟩]
      simp
    rw [hp] at this
    cases this
end Line0
