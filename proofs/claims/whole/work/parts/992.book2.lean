/-! ===== the DEFINITIONS as one row of records, for both sides ===== -/
/-- (sort, length, place and bytes of the NAME), (number of the BASE, first step, steps), (text, its end), (the reference's text: from, to, shift; end of the EXPR), end of the line -/
abbrev Df : Type := (Nat × Nat × Nat × (Nat → Nat)) × (Nat × Nat × List St) × ((Nat → Nat) × Nat) × (Nat × Nat × Nat × Nat) × Nat
def fso (D : Nat → Df) (k : Nat) : Nat := (D k).1.1
def fln (D : Nat → Df) (k : Nat) : Nat := (D k).1.2.1
def fnp (D : Nat → Df) (k : Nat) : Nat := (D k).1.2.2.1
def fnm (D : Nat → Df) (k : Nat) : Nat → Nat := (D k).1.2.2.2
def fbn (D : Nat → Df) (k : Nat) : Nat := (D k).2.1.1
def fcs (D : Nat → Df) (k : Nat) : Nat := (D k).2.1.2.1
def fLk (D : Nat → Df) (k : Nat) : List St := (D k).2.1.2.2
def fCk (D : Nat → Df) (k : Nat) : Nat → Nat := (D k).2.2.1.1
def fmk (D : Nat → Df) (k : Nat) : Nat := (D k).2.2.1.2
def ftf (D : Nat → Df) (k : Nat) : Nat := (D k).2.2.2.1.1
def ftt (D : Nat → Df) (k : Nat) : Nat := (D k).2.2.2.1.2.1
def fdd (D : Nat → Df) (k : Nat) : Nat := (D k).2.2.2.1.2.2.1
def fek (D : Nat → Df) (k : Nat) : Nat := (D k).2.2.2.1.2.2.2
def fte (D : Nat → Df) (k : Nat) : Nat := (D k).2.2.2.2
def flo (_ : Nat) : Nat := 0
def fce (D : Nat → Df) (k : Nat) : Nat := fcs D k + (fLk D k).length
/-- of the last one ahead of c; 0 where there is none -/
def eO (f : Nat → Nat) : Nat → Nat
  | 0 => 0
  | c + 1 => f c
theorem eO_p {f : Nat → Nat} {c : Nat} (h : 0 < c) : eO f c = f (c - 1) := by
  cases c with
  | zero => omega
  | succ c => rfl
theorem eO_mono {f : Nat → Nat} : ∀ {c}, (∀ k, k < c → eO f k ≤ f k) → ∀ k, k < c → f k ≤ eO f c
  | 0, _, k, hk => by omega
  | c + 1, h, k, hk => by
    show f k ≤ f c
    rcases Nat.eq_or_lt_of_le (Nat.le_of_lt_succ hk) with e | e
    · rw [e]; exact Nat.le_refl _
    · exact Nat.le_trans (eO_mono (fun j hj => h j (by omega)) k e) (h c (by omega))
theorem eO_up {f : Nat → Nat} {c : Nat} (h : ∀ k, k < c → eO f k ≤ f k) {n : Nat} (hn : n ≤ c) : eO f n ≤ eO f c := by
  cases n with
  | zero => exact Nat.zero_le _
  | succ n => exact eO_mono h n (by omega)
theorem eO_c {f f' : Nat → Nat} {c n : Nat} (h : ∀ k, k < c → f' k = f k) (hn : n ≤ c) : eO f' n = eO f n := by
  cases n with
  | zero => rfl
  | succ n => exact h n (by omega)
theorem nb_c {so so' : Nat → Nat} {c : Nat} (h : ∀ k, k < c → so' k = so k) : ∀ {n}, n ≤ c → nb so' n = nb so n
  | 0, _ => rfl
  | n + 1, hn => by
    show nb so' n + (if so' n = 0 then 1 else 0) = nb so n + (if so n = 0 then 1 else 0)
    rw [nb_c h (by omega), h n (by omega)]
theorem nb_mono (so : Nat → Nat) {n : Nat} : ∀ {c}, n ≤ c → nb so n ≤ nb so c
  | 0, h => by rw [show n = 0 by omega]; exact Nat.le_refl _
  | c + 1, h => by
    rcases Nat.eq_or_lt_of_le h with e | e
    · rw [e]; exact Nat.le_refl _
    · exact Nat.le_trans (nb_mono so (Nat.le_of_lt_succ e)) (Nat.le_add_right _ _)
def dOk (D : Nat → Df) (k : Nat) : Prop := fso D k ≤ 2 ∧ (0 < fln D k ∧ fln D k ≤ 24) ∧ fnp D k + fln D k ≤ fte D k ∧ (∀ i, i < fln D k → fnm D k i < 256) ∧ (fso D k = 0 → fbn D k < 8) ∧ fmk D k ≤ fte D k ∧ fte D k ≤ 10240 ∧ ftt D k ≤ fte D k ∧ 3 * fce D k ≤ 4 * fte D k ∧ (fso D k ≠ 0 → tOk (fCk D k) (fmk D k) ∧ dk (fCk D k) (fmk D k) 0 66 1 (fLk D k) 0 ∧ ftf D k ≤ ftt D k ∧ ftt D k + fdd D k = fmk D k ∧ PM0 (fCk D k) (fmk D k) (tkF (fCk D k) (fmk D k) (ftf D k + fdd D k)) (fLk D k) true (fek D k))
def dUn (c : Nat) (D : Nat → Df) : Prop := ∀ k k', k < c → k' < c → (fso D k = 2 ↔ fso D k' = 2) → fln D k = fln D k' → (∀ i, i < fln D k → fnm D k i = fnm D k' i) → k = k'
def DB (c : Nat) (D : Nat → Df) : Prop := c ≤ 100 ∧ (∀ k, k < c → dOk D k) ∧ (∀ k, k < c → eO (fte D) k ≤ fte D k ∧ eO (ftt D) k ≤ ftt D k ∧ eO (fce D) k ≤ fce D k) ∧ nb (fso D) c ≤ 8 ∧ (∀ k, k < c → fbn D k = nb (fso D) k) ∧ dUn c D
theorem DB_te {c : Nat} {D : Nat → Df} (h : DB c D) : eO (fte D) c ≤ 10240 := by
  cases c with
  | zero => exact Nat.zero_le _
  | succ c => exact (h.2.1 c (by omega)).2.2.2.2.2.2.1
theorem DB_ce {c : Nat} {D : Nat → Df} (h : DB c D) : 3 * eO (fce D) c ≤ 4 * eO (fte D) c := by
  cases c with
  | zero => exact Nat.le_refl _
  | succ c => exact (h.2.1 c (by omega)).2.2.2.2.2.2.2.2.1
theorem DB_tt {c : Nat} {D : Nat → Df} (h : DB c D) : eO (ftt D) c ≤ eO (fte D) c := by
  cases c with
  | zero => exact Nat.le_refl _
  | succ c => exact (h.2.1 c (by omega)).2.2.2.2.2.2.2.1
theorem DB_take {c n : Nat} {D : Nat → Df} (h : DB c D) (hn : n ≤ c) : DB n D := by
  obtain ⟨h1, h2, h3, h4, h5, h6⟩ := h
  exact ⟨by omega, fun k hk => h2 k (by omega), fun k hk => h3 k (by omega), Nat.le_trans (nb_mono _ hn) h4, fun k hk => h5 k (by omega), fun k k' hk hk' => h6 k k' (by omega) (by omega)⟩
theorem f_c {D D' : Nat → Df} {k : Nat} (e : D' k = D k) : fso D' k = fso D k ∧ fln D' k = fln D k ∧ fnp D' k = fnp D k ∧ fnm D' k = fnm D k ∧ fbn D' k = fbn D k ∧ fcs D' k = fcs D k ∧ fLk D' k = fLk D k ∧ fCk D' k = fCk D k ∧ fmk D' k = fmk D k ∧ ftf D' k = ftf D k ∧ ftt D' k = ftt D k ∧ fdd D' k = fdd D k ∧ fek D' k = fek D k ∧ fte D' k = fte D k ∧ fce D' k = fce D k := by
  unfold fso fln fnp fnm fbn fcs fLk fCk fmk ftf ftt fdd fek fte fce fcs fLk
  rw [e]
  exact ⟨rfl, rfl, rfl, rfl, rfl, rfl, rfl, rfl, rfl, rfl, rfl, rfl, rfl, rfl, rfl⟩
theorem dOk_c {D D' : Nat → Df} {k : Nat} (e : D' k = D k) (h : dOk D k) : dOk D' k := by
  obtain ⟨e1, e2, e3, e4, e5, e6, e7, e8, e9, e10, e11, e12, e13, e14, e15⟩ := f_c e
  unfold dOk
  rw [e1, e2, e3, e4, e5, e7, e8, e9, e10, e11, e12, e13, e14, e15]
  exact h
theorem DB_c {c : Nat} {D D' : Nat → Df} (e : ∀ k, k < c → D' k = D k) (h : DB c D) : DB c D' := by
  obtain ⟨h1, h2, h3, h4, h5, h6⟩ := h
  have es : ∀ k, k < c → fso D' k = fso D k := fun k hk => (f_c (e k hk)).1
  refine ⟨h1, fun k hk => dOk_c (e k hk) (h2 k hk), fun k hk => ?_, by rw [nb_c es (Nat.le_refl _)]; exact h4, fun k hk => ?_, fun k k' hk hk' => ?_⟩
  · obtain ⟨-, -, -, -, -, -, -, -, -, -, e11, -, -, e14, e15⟩ := f_c (e k hk)
    rw [eO_c (c := c) (f := fte D) (fun j hj => (f_c (e j hj)).2.2.2.2.2.2.2.2.2.2.2.2.2.1) (by omega), eO_c (c := c) (f := ftt D) (fun j hj => (f_c (e j hj)).2.2.2.2.2.2.2.2.2.2.1) (by omega), eO_c (c := c) (f := fce D) (fun j hj => (f_c (e j hj)).2.2.2.2.2.2.2.2.2.2.2.2.2.2) (by omega), e11, e14, e15]
    exact h3 k hk
  · rw [nb_c es (by omega), (f_c (e k hk)).2.2.2.2.1]; exact h5 k hk
  · rw [es k hk, es k' hk', (f_c (e k hk)).2.1, (f_c (e k' hk')).2.1, (f_c (e k hk)).2.2.2.1, (f_c (e k' hk')).2.2.2.1]
    exact h6 k k' hk hk'
/-- one more -/
theorem DB_push {c : Nat} {D : Nat → Df} (h : DB c D) (hc : c < 100) (h1 : dOk D c) (h2 : eO (fte D) c ≤ fte D c ∧ eO (ftt D) c ≤ ftt D c ∧ eO (fce D) c ≤ fce D c) (h3 : nb (fso D) (c + 1) ≤ 8) (h4 : fbn D c = nb (fso D) c) (h5 : ∀ k, k < c → ¬ ((fso D k = 2 ↔ fso D c = 2) ∧ fln D k = fln D c ∧ ∀ i, i < fln D k → fnm D k i = fnm D c i)) : DB (c + 1) D := by
  obtain ⟨a1, a2, a3, a4, a5, a6⟩ := h
  have sp : ∀ k, k < c + 1 → k < c ∨ k = c := fun k hk => by omega
  refine ⟨by omega, fun k hk => ?_, fun k hk => ?_, h3, fun k hk => ?_, fun k k' hk hk' b1 b2 b3 => ?_⟩
  · rcases sp k hk with e | e
    · exact a2 k e
    · rw [e]; exact h1
  · rcases sp k hk with e | e
    · exact a3 k e
    · rw [e]; exact h2
  · rcases sp k hk with e | e
    · exact a5 k e
    · rw [e]; exact h4
  · rcases sp k hk with e | e <;> rcases sp k' hk' with e' | e'
    · exact a6 k k' e e' b1 b2 b3
    · subst e'; exact absurd ⟨b1, b2, b3⟩ (h5 k e)
    · subst e
      exact absurd ⟨b1.symm, b2.symm, fun i hi => (b3 i (by omega)).symm⟩ (h5 k' e')
    · omega
/-- the class's Book -/
def WB (J : Nat → Nat → Int32) (w c : Nat) (D : Nat → Df) (T : Nat → Nat) : Prop := WT J w T ∧ J w 9 = nI c ∧ J w 10 = nI (nb (fso D) c) ∧ ∀ k, k < c → J (w + 6) k = nI (fso D k) ∧ J (w + 7) k = nI (fnp D k) ∧ J (w + 8) k = nI (fln D k) ∧ J (w + 9) k = nI (fbn D k) ∧ J (w + 10) k = nI (fcs D k) ∧ J (w + 11) k = nI (fce D k) ∧ J (w + 12) k = nI (fte D k) ∧ sg J w (fcs D k) (fLk D k) ∧ (∀ i, i < fln D k → fnm D k i = T (fnp D k + i)) ∧ (fso D k ≠ 0 → ∀ q, q < fmk D k → T q = fCk D k q)
theorem WB_D {J : Nat → Nat → Int32} {w c : Nat} {D : Nat → Df} {T : Nat → Nat} (hD : DB c D) (hB : WB J w c D T) : WD J w c (fso D) (fln D) (fnp D) (fnm D) T (fbn D) (fcs D) (fLk D) (fCk D) (fmk D) flo := by
  obtain ⟨h1, h2, h3, h4, h5, h6⟩ := hD
  obtain ⟨b1, b2, b3, b4⟩ := hB
  refine ⟨b1, ⟨b2, h1, fun k hk => ?_⟩, fun k hk => ?_, fun k k' hk hk' e e' => h6 k k' hk hk' (by rw [e, e'])⟩
  · obtain ⟨c1, c2, c3, c4, c5, c6, c7, c8, c9, c10⟩ := b4 k hk
    obtain ⟨d1, d2, d3, d4, d5, d6, d7, d8, d9, d10⟩ := h2 k hk
    exact ⟨⟨c1, d1⟩, ⟨c3, d2.1, d2.2⟩, ⟨c2, by omega⟩, c9⟩
  · obtain ⟨c1, c2, c3, c4, c5, c6, c7, c8, c9, c10⟩ := b4 k hk
    obtain ⟨d1, d2, d3, d4, d5, d6, d7, d8, d9, d10⟩ := h2 k hk
    have : fce D k = fcs D k + (fLk D k).length := rfl
    exact ⟨c4, d5, c5, c6, by omega, c8, fun z => ⟨(d10 z).1, by omega, fun q _ hq => c10 z q hq, (d10 z).2.1⟩⟩
theorem WB_x {J J' : Nat → Nat → Int32} {w c : Nat} {D : Nat → Df} {T : Nat → Nat} (o : ∀ r, w < r → r < w + 13 → r ≠ w + 2 → J' r = J r) (o9 : J' w 9 = J w 9) (o10 : J' w 10 = J w 10) (h : WB J w c D T) : WB J' w c D T := by
  obtain ⟨b1, b2, b3, b4⟩ := h
  refine ⟨fun q hq => by rw [o _ (by omega) (by omega) (by omega)]; exact b1 q hq, o9.trans b2, o10.trans b3, fun k hk => ?_⟩
  obtain ⟨c1, c2, c3, c4, c5, c6, c7, c8, c9, c10⟩ := b4 k hk
  refine ⟨by rw [o _ (by omega) (by omega) (by omega)]; exact c1, by rw [o _ (by omega) (by omega) (by omega)]; exact c2, by rw [o _ (by omega) (by omega) (by omega)]; exact c3, by rw [o _ (by omega) (by omega) (by omega)]; exact c4, by rw [o _ (by omega) (by omega) (by omega)]; exact c5, by rw [o _ (by omega) (by omega) (by omega)]; exact c6, by rw [o _ (by omega) (by omega) (by omega)]; exact c7, sg_same (o _ (by omega) (by omega) (by omega)) (o _ (by omega) (by omega) (by omega)) (o _ (by omega) (by omega) (by omega)) c8, c9, c10⟩
/-- steps were added behind the last -/
theorem WB_f {J J' : Nat → Nat → Int32} {w c i : Nat} {D : Nat → Df} {T : Nat → Nat} (hD : DB c D) (hi : eO (fce D) c ≤ i) (f : fC w i J J') (h : WB J w c D T) : WB J' w c D T := by
  obtain ⟨b1, b2, b3, b4⟩ := h
  have o : ∀ r, r = w ∨ r = w + 1 ∨ w + 6 ≤ r ∧ r < w + 13 → J' r = J r := fun r hr => f.1 r (by omega) (by omega) (by omega) (by omega) (by omega) (by omega) (by omega) (by omega)
  refine ⟨fun q hq => by rw [o _ (by omega)]; exact b1 q hq, by rw [o w (by omega)]; exact b2, by rw [o w (by omega)]; exact b3, fun k hk => ?_⟩
  obtain ⟨c1, c2, c3, c4, c5, c6, c7, c8, c9, c10⟩ := b4 k hk
  have hm := eO_mono (f := fce D) (fun j hj => (hD.2.2.1 j hj).2.2) k hk
  have : fce D k = fcs D k + (fLk D k).length := rfl
  refine ⟨by rw [o _ (by omega)]; exact c1, by rw [o _ (by omega)]; exact c2, by rw [o _ (by omega)]; exact c3, by rw [o _ (by omega)]; exact c4, by rw [o _ (by omega)]; exact c5, by rw [o _ (by omega)]; exact c6, by rw [o _ (by omega)]; exact c7, sg_c f (by omega) c8, c9, c10⟩
theorem WB_take {J J' : Nat → Nat → Int32} {w c n : Nat} {D D' : Nat → Df} {T : Nat → Nat} (hn : n ≤ c) (e : ∀ k, k < n → D' k = D k) (o : ∀ r, r ≠ w → J' r = J r) (e9 : J' w 9 = nI n) (e10 : J' w 10 = nI (nb (fso D) n)) (h : WB J w c D T) : WB J' w n D' T := by
  obtain ⟨b1, b2, b3, b4⟩ := h
  refine ⟨fun q hq => by rw [o _ (by omega)]; exact b1 q hq, e9, by rw [nb_c (c := n) (so := fso D) (fun k hk => (f_c (e k hk)).1) (Nat.le_refl _)]; exact e10, fun k hk => ?_⟩
  obtain ⟨c1, c2, c3, c4, c5, c6, c7, c8, c9, c10⟩ := b4 k (by omega)
  obtain ⟨e1, e2, e3, e4, e5, e6, e7, e8, e9', e10', e11, e12, e13, e14, e15⟩ := f_c (e k hk)
  rw [e1, e2, e3, e4, e5, e6, e7, e8, e9', e14, e15, o _ (by omega), o _ (by omega), o _ (by omega), o _ (by omega), o _ (by omega), o _ (by omega), o _ (by omega)]
  exact ⟨c1, c2, c3, c4, c5, c6, c7, sg_same (o _ (by omega)) (o _ (by omega)) (o _ (by omega)) c8, c9, c10⟩
/-- bytes behind the last text -/
theorem WB_T {J J' : Nat → Nat → Int32} {w c : Nat} {D : Nat → Df} {T T' : Nat → Nat} (hD : DB c D) (o : ∀ r, w ≤ r → r < w + 13 → r ≠ w + 1 → J' r = J r) (hT : WT J' w T') (e : ∀ q, q < eO (fte D) c → T' q = T q) (h : WB J w c D T) : WB J' w c D T' := by
  obtain ⟨b1, b2, b3, b4⟩ := h
  refine ⟨hT, by rw [o w (by omega) (by omega) (by omega)]; exact b2, by rw [o w (by omega) (by omega) (by omega)]; exact b3, fun k hk => ?_⟩
  obtain ⟨c1, c2, c3, c4, c5, c6, c7, c8, c9, c10⟩ := b4 k hk
  obtain ⟨d1, d2, d3, d4, d5, d6, d7, d8, d9, d10⟩ := hD.2.1 k hk
  have hm := eO_mono (f := fte D) (fun j hj => (hD.2.2.1 j hj).1) k hk
  refine ⟨by rw [o _ (by omega) (by omega) (by omega)]; exact c1, by rw [o _ (by omega) (by omega) (by omega)]; exact c2, by rw [o _ (by omega) (by omega) (by omega)]; exact c3, by rw [o _ (by omega) (by omega) (by omega)]; exact c4, by rw [o _ (by omega) (by omega) (by omega)]; exact c5, by rw [o _ (by omega) (by omega) (by omega)]; exact c6, by rw [o _ (by omega) (by omega) (by omega)]; exact c7, sg_same (o _ (by omega) (by omega) (by omega)) (o _ (by omega) (by omega) (by omega)) (o _ (by omega) (by omega) (by omega)) c8, fun i hi => by rw [e _ (by omega)]; exact c9 i hi, fun z q hq => by rw [e _ (by omega)]; exact c10 z q hq⟩
theorem WB_eO {J : Nat → Nat → Int32} {w c : Nat} {D : Nat → Df} {T : Nat → Nat} (h : WB J w c D T) : ((c = 0 → eO (fce D) c = 0) ∧ (0 < c → J (w + 11) (c - 1) = nI (eO (fce D) c))) ∧ (c = 0 → eO (fte D) c = 0) ∧ (0 < c → J (w + 12) (c - 1) = nI (eO (fte D) c)) := by
  obtain ⟨b1, b2, b3, b4⟩ := h
  refine ⟨⟨fun z => by rw [z]; rfl, fun z => ?_⟩, fun z => by rw [z]; rfl, fun z => ?_⟩
  · rw [eO_p z]; exact (b4 (c - 1) (by omega)).2.2.2.2.2.1
  · rw [eO_p z]; exact (b4 (c - 1) (by omega)).2.2.2.2.2.2.1
/-- the reference's book -/
def RB (K : Nat → Nat → Int32) (c : Nat) (D : Nat → Df) : Prop := ∀ k, k < c → K 5 k = nI (fso D k) ∧ K 6 k = nI (fbn D k) ∧ K 8 k = nI (fln D k) ∧ (∀ i, i < fln D k → K 7 (24 * k + i) = nI (fnm D k i)) ∧ K 9 k = nI (ftf D k) ∧ K 10 k = nI (ftt D k) ∧ (fso D k ≠ 0 → ∀ p, ftf D k ≤ p → p < ftt D k → K 11 p = nI (fCk D k (p + fdd D k)))
theorem RB_M {K : Nat → Nat → Int32} {c : Nat} {D : Nat → Df} (hD : DB c D) (hB : RB K c D) : RM K (fso D) (fln D) (fnm D) c := by
  refine ⟨by have := hD.1; omega, fun k hk => ?_⟩
  obtain ⟨b1, b2, b3, b4, b5, b6, b7⟩ := hB k hk
  obtain ⟨d1, d2, d3, d4, d5, d6, d7, d8, d9, d10⟩ := hD.2.1 k hk
  exact ⟨⟨b1, d1⟩, ⟨b3, d2.1, d2.2⟩, fun i hi => ⟨b4 i hi, d4 i hi⟩⟩
theorem RB_D {K : Nat → Nat → Int32} {c : Nat} {D : Nat → Df} (hD : DB c D) (hB : RB K c D) : RD K c (fso D) (fln D) (fnm D) (fbn D) (ftf D) (ftt D) (fdd D) (fLk D) (fCk D) (fmk D) (fek D) := by
  refine ⟨hD.1, RB_M hD hB, fun k k' hk hk' e e' => hD.2.2.2.2.2 k k' hk hk' (by rw [e, e']), fun k hk => ?_⟩
  obtain ⟨b1, b2, b3, b4, b5, b6, b7⟩ := hB k hk
  obtain ⟨d1, d2, d3, d4, d5, d6, d7, d8, d9, d10⟩ := hD.2.1 k hk
  refine ⟨b2, d5, fun z => ?_⟩
  obtain ⟨f1, f2, f3, f4, f5⟩ := d10 z
  exact ⟨b5, b6, f3, by omega, f4, f1, b7 z, f5⟩
theorem RB_x {K K' : Nat → Nat → Int32} {c : Nat} {D : Nat → Df} (o : ∀ r, 5 ≤ r → r < 12 → K' r = K r) (h : RB K c D) : RB K' c D := fun k hk => by
  rw [o 5 (by decide) (by decide), o 6 (by decide) (by decide), o 7 (by decide) (by decide), o 8 (by decide) (by decide), o 9 (by decide) (by decide), o 10 (by decide) (by decide), o 11 (by decide) (by decide)]
  exact h k hk
theorem RB_g {K K' : Nat → Nat → Int32} {c : Nat} {D : Nat → Df} (o : fG K K') (h : RB K c D) : RB K' c D := RB_x (fun r a b => o.1 r (by omega) (by omega) (by omega) (by omega) (by omega)) h
theorem RB_take {K : Nat → Nat → Int32} {c n : Nat} {D D' : Nat → Df} (hn : n ≤ c) (e : ∀ k, k < n → D' k = D k) (h : RB K c D) : RB K n D' := fun k hk => by
  obtain ⟨e1, e2, e3, e4, e5, e6, e7, e8, e9', e10', e11, e12, e13, e14, e15⟩ := f_c (e k hk)
  rw [e1, e2, e4, e5, e8, e10', e11, e12]
  exact h k (by omega)
