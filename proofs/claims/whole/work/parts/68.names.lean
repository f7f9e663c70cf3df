/-! ===== names ===== -/
def fd (P : Nat → Bool) : Nat → Nat → Option Nat
  | _, 0 => none
  | k, f + 1 => if P k = true then some k else fd P (k + 1) f
def oI : Option Nat → Int32
  | none => -1
  | some k => nI k
theorem fd_none {P : Nat → Bool} : ∀ {f k : Nat}, fd P k f = none ↔ ∀ j, k ≤ j → j < k + f → P j = false
  | 0, k => ⟨fun _ j h1 h2 => by omega, fun _ => rfl⟩
  | f + 1, k => by
    show (if P k = true then some k else fd P (k + 1) f) = none ↔ _
    by_cases z : P k = true
    · rw [if_pos z]
      refine ⟨fun y => (by cases y), fun y => ?_⟩
      have := y k (Nat.le_refl _) (by omega)
      rw [z] at this
      cases this
    · rw [if_neg z, fd_none]
      refine ⟨fun y j h1 h2 => ?_, fun y j h1 h2 => y j (by omega) (by omega)⟩
      rcases Nat.eq_or_lt_of_le h1 with w | w
      · rw [← w]; simpa using z
      · exact y j w (by omega)
theorem fd_some {P : Nat → Bool} : ∀ {f k j : Nat}, fd P k f = some j → k ≤ j ∧ j < k + f ∧ P j = true ∧ ∀ i, k ≤ i → i < j → P i = false
  | 0, k, j, h => by cases h
  | f + 1, k, j, h => by
    have h' : (if P k = true then some k else fd P (k + 1) f) = some j := h
    by_cases z : P k = true
    · rw [if_pos z] at h'
      have := Option.some.inj h'
      subst this
      exact ⟨Nat.le_refl _, by omega, z, fun i h1 h2 => by omega⟩
    · rw [if_neg z] at h'
      obtain ⟨a, c, d, e⟩ := fd_some h'
      refine ⟨by omega, by omega, d, fun i h1 h2 => ?_⟩
      rcases Nat.eq_or_lt_of_le h1 with w | w
      · rw [← w]; simpa using z
      · exact e i w h2
theorem fd_is {P : Nat → Bool} {f j : Nat} (h1 : j < f) (h2 : P j = true) (h3 : ∀ i, i < f → P i = true → i = j) : fd P 0 f = some j := by
  cases e : fd P 0 f with
  | none =>
    have := fd_none.mp e j (Nat.zero_le _) (by omega)
    rw [h2] at this
    cases this
  | some i =>
    obtain ⟨-, a, c, -⟩ := fd_some e
    rw [h3 i (by omega) c]
theorem fd_c {P P' : Nat → Bool} : ∀ {f k : Nat}, (∀ j, k ≤ j → j < k + f → P j = P' j) → fd P k f = fd P' k f
  | 0, _, _ => rfl
  | f + 1, k, h => by
    show (if P k = true then some k else fd P (k + 1) f) = (if P' k = true then some k else fd P' (k + 1) f)
    rw [h k (Nat.le_refl _) (by omega), fd_c (fun j a c => h j (by omega) (by omega))]
theorem oI_none : oI none = -1 := rfl
theorem oI_neg {k : Nat} (h : k < 2 ^ 31) : nI k ≠ -1 := by
  intro z
  have := congrArg Int32.toInt z
  rw [nI_toInt h] at this
  have : (k : Int) = -1 := this
  omega
/-- NAME k is the n bytes from a on -/
def nq (ln : Nat → Nat) (nm : Nat → Nat → Nat) (C : Nat → Nat) (a n k : Nat) : Bool := decide (ln k = n) && decide (∀ i, i < n → nm k i = C (a + i))
theorem nq_iff {ln : Nat → Nat} {nm : Nat → Nat → Nat} {C : Nat → Nat} {a n k : Nat} : nq ln nm C a n k = true ↔ ln k = n ∧ ∀ i, i < n → nm k i = C (a + i) := by unfold nq; simp
def pG (so ln : Nat → Nat) (nm : Nat → Nat → Nat) (pf : Bool) (C : Nat → Nat) (a n k : Nat) : Bool := (decide (so k = 2) == pf) && nq ln nm C a n k
theorem pG_t {so ln : Nat → Nat} {nm : Nat → Nat → Nat} {C : Nat → Nat} {a n k : Nat} : pG so ln nm true C a n k = true ↔ so k = 2 ∧ nq ln nm C a n k = true := by unfold pG; simp
theorem pG_f {so ln : Nat → Nat} {nm : Nat → Nat → Nat} {C : Nat → Nat} {a n k : Nat} : pG so ln nm false C a n k = true ↔ so k ≠ 2 ∧ nq ln nm C a n k = true := by unfold pG; simp
def fM (so ln : Nat → Nat) (nm : Nat → Nat → Nat) (c : Nat) (C : Nat → Nat) (a n : Nat) : Option Nat := fd (pG so ln nm false C a n) 0 c
def fX (so ln : Nat → Nat) (nm : Nat → Nat → Nat) (c : Nat) (C : Nat → Nat) (a n : Nat) : Option Nat := fd (pG so ln nm true C a n) 0 c
def fT (so ln : Nat → Nat) (nm : Nat → Nat → Nat) (c : Nat) (C : Nat → Nat) (a n : Nat) : Option Nat := if fM so ln nm c C a n = none ∧ 1 < n ∧ C (a + n - 1) = 115 then fM so ln nm c C a (n - 1) else fM so ln nm c C a n
def mr (so ln : Nat → Nat) (nm : Nat → Nat → Nat) (c : Nat) (C : Nat → Nat) (a n : Nat) : Nat → Option Nat × Option Nat
  | 0 => (none, none)
  | j + 1 => if fX so ln nm c C a (j + 1) = none ∨ fT so ln nm c C (a + (j + 1)) (n - (j + 1)) = none then mr so ln nm c C a n j else (fX so ln nm c C a (j + 1), fT so ln nm c C (a + (j + 1)) (n - (j + 1)))
def mng (so ln : Nat → Nat) (nm : Nat → Nat → Nat) (c : Nat) (C : Nat → Nat) (a n : Nat) : Option Nat × Option Nat := if fT so ln nm c C a n = none then mr so ln nm c C a n (n - 1) else (none, fT so ln nm c C a n)
section NamesP
variable {so ln : Nat → Nat} {nm : Nat → Nat → Nat} {c : Nat} {C C' : Nat → Nat} {a n : Nat}
theorem nq_c {k : Nat} (h : ∀ i, i < n → C (a + i) = C' (a + i)) : nq ln nm C a n k = nq ln nm C' a n k := by
  cases e : nq ln nm C' a n k with
  | true =>
    obtain ⟨e1, e2⟩ := nq_iff.mp e
    exact nq_iff.mpr ⟨e1, fun i hi => by rw [h i hi]; exact e2 i hi⟩
  | false =>
    refine bF nq_iff (fun w => bT nq_iff e ⟨w.1, fun i hi => by rw [← h i hi]; exact w.2 i hi⟩)
theorem pG_c {pf : Bool} {k : Nat} (h : ∀ i, i < n → C (a + i) = C' (a + i)) : pG so ln nm pf C a n k = pG so ln nm pf C' a n k := by unfold pG; rw [nq_c h]
theorem fM_c (h : ∀ i, i < n → C (a + i) = C' (a + i)) : fM so ln nm c C a n = fM so ln nm c C' a n := fd_c (fun _ _ _ => pG_c h)
theorem fX_c (h : ∀ i, i < n → C (a + i) = C' (a + i)) : fX so ln nm c C a n = fX so ln nm c C' a n := fd_c (fun _ _ _ => pG_c h)
theorem fT_c (h : ∀ i, i < n → C (a + i) = C' (a + i)) : fT so ln nm c C a n = fT so ln nm c C' a n := by
  unfold fT
  rw [fM_c h, fM_c (C' := C') (n := n - 1) (fun i hi => h i (by omega))]
  by_cases z : 1 < n
  · rw [show a + n - 1 = a + (n - 1) by omega, h (n - 1) (by omega)]
  · rw [if_neg (fun w => z w.2.1), if_neg (fun w => z w.2.1)]
theorem mr_c (h : ∀ i, i < n → C (a + i) = C' (a + i)) : ∀ j, j ≤ n → mr so ln nm c C a n j = mr so ln nm c C' a n j
  | 0, _ => rfl
  | j + 1, hj => by
    unfold mr
    rw [fX_c (C' := C') (n := j + 1) (fun i hi => h i (by omega)), fT_c (C' := C') (a := a + (j + 1)) (n := n - (j + 1)) (fun i hi => by rw [show a + (j + 1) + i = a + (j + 1 + i) by omega]; exact h _ (by omega)), mr_c h j (by omega)]
theorem mng_c (h : ∀ i, i < n → C (a + i) = C' (a + i)) : mng so ln nm c C a n = mng so ln nm c C' a n := by
  unfold mng
  rw [fT_c h, mr_c h (n - 1) (by omega)]
/-- no PREFIX fits -/
theorem mr_none (hl : ∀ k, k < c → 0 < ln k) (h : ∀ k, k < c → so k = 2 → ln k < n → nq ln nm C a (ln k) k = true → fT so ln nm c C (a + ln k) (n - ln k) = none) : ∀ j, j < n ∨ n = 0 ∧ j = 0 → mr so ln nm c C a n j = (none, none)
  | 0, _ => rfl
  | j + 1, hj => by
    unfold mr
    rw [if_pos, mr_none hl h j (by omega)]
    cases e : fX so ln nm c C a (j + 1) with
    | none => exact Or.inl rfl
    | some k =>
      obtain ⟨-, z2, z3, -⟩ := fd_some e
      obtain ⟨y1, y2⟩ := pG_t.mp z3
      have y3 := (nq_iff.mp y2).1
      have := h k (by omega) y1 (by omega) (by rw [y3]; exact y2)
      rw [y3] at this
      exact Or.inr this
theorem mr_some {k0 t : Nat} (hl : ∀ k, k < c → 0 < ln k) (hk : k0 < c) (h1 : so k0 = 2) (h2 : ln k0 < n) (h3 : nq ln nm C a (ln k0) k0 = true) (h4 : fT so ln nm c C (a + ln k0) (n - ln k0) = some t) (hu : ∀ k, k < c → so k = 2 → nq ln nm C a (ln k0) k = true → k = k0) (h : ∀ k, k < c → so k = 2 → ln k < n → nq ln nm C a (ln k) k = true → ln k0 < ln k → fT so ln nm c C (a + ln k) (n - ln k) = none) : ∀ j, j < n → ln k0 ≤ j → mr so ln nm c C a n j = (some k0, some t)
  | 0, _, h0 => by have := hl k0 hk; omega
  | j + 1, hj, h0 => by
    have ex : fX so ln nm c C a (ln k0) = some k0 := fd_is hk (pG_t.mpr ⟨h1, h3⟩) (fun i hi hp => hu i hi (pG_t.mp hp).1 (pG_t.mp hp).2)
    unfold mr
    by_cases e : ln k0 = j + 1
    · rw [e] at ex h4
      rw [ex, h4, if_neg (by rintro (z | z) <;> cases z)]
    · rw [if_pos, mr_some hl hk h1 h2 h3 h4 hu h j (by omega) (by omega)]
      cases e' : fX so ln nm c C a (j + 1) with
      | none => exact Or.inl rfl
      | some k =>
        obtain ⟨-, z2, z3, -⟩ := fd_some e'
        obtain ⟨y1, y2⟩ := pG_t.mp z3
        have y3 := (nq_iff.mp y2).1
        have := h k (by omega) y1 (by omega) (by rw [y3]; exact y2) (by omega)
        rw [y3] at this
        exact Or.inr this
end NamesP
/-- the class's Book at k: its text k + 1, its Code k + 2 .. k + 5, its rows k + 6 .. k + 12 -/
def CW (h : xH) (k : Nat) : Prop := (xT h k).1 = 1 ∧ (xP h k 0 = some (k + 1) ∧ xP h k 1 = some (k + 2) ∧ xP h k 2 = some (k + 6) ∧ xP h k 3 = some (k + 7) ∧ xP h k 4 = some (k + 8) ∧ xP h k 5 = some (k + 9) ∧ xP h k 6 = some (k + 10) ∧ xP h k 7 = some (k + 11) ∧ xP h k 8 = some (k + 12)) ∧ xT h (k + 1) = (101, 10240) ∧ (xT h (k + 6) = (100, 100) ∧ xT h (k + 7) = (100, 100) ∧ xT h (k + 8) = (100, 100) ∧ xT h (k + 9) = (100, 100) ∧ xT h (k + 10) = (100, 100) ∧ xT h (k + 11) = (100, 100) ∧ xT h (k + 12) = (100, 100)) ∧ (xT h (k + 2)).1 = 2 ∧ (xP h (k + 2) 0 = some (k + 3) ∧ xP h (k + 2) 1 = some (k + 4) ∧ xP h (k + 2) 2 = some (k + 5)) ∧ xT h (k + 3) = (100, 13668) ∧ xT h (k + 4) = (100, 13668) ∧ xT h (k + 5) = (100, 13668)
/-- its text and names -/
def WT (J : Nat → Nat → Int32) (w : Nat) (T : Nat → Nat) : Prop := ∀ q, q < 10240 → J (w + 1) q = sb (T q) ∧ T q < 256
def WN (J : Nat → Nat → Int32) (w : Nat) (so ln np : Nat → Nat) (nm : Nat → Nat → Nat) (T : Nat → Nat) (c : Nat) : Prop := J w 9 = nI c ∧ c ≤ 100 ∧ ∀ k, k < c → (J (w + 6) k = nI (so k) ∧ so k ≤ 2) ∧ (J (w + 8) k = nI (ln k) ∧ 0 < ln k ∧ ln k ≤ 24) ∧ (J (w + 7) k = nI (np k) ∧ np k + ln k ≤ 10240) ∧ ∀ i, i < ln k → nm k i = T (np k + i)
section Names1
variable {g : xG} {l : Launch} {h : xH} {J : Nat → Nat → Int32} {Q : Option Value → xH → Prop} {so ln np : Nat → Nat} {nm : Nat → Nat → Nat} {T : Nat → Nat} {c w : Nat}
theorem c_byteAt1 {q : Nat} (hW : CW h w) (hT : WT J w T) (hq : q < 10240) (k : Q (some (.int (sb (T q)))) (xJ h J)) : ac g l mX1_byteAt [.ref w, .int (nI q)] (xJ h J) Q := by
  refine ac_of (by decide) (Nat.le_of_ble_eq_true rfl) ?_
  obtain ⟨t1, ⟨p0, -⟩, t2, -⟩ := hW
  refine sX1_byteAt_0 rfl ?_
  refine nX1_byteAt_1 (by omega) ?_
  refine sX1_byteAt_4 rfl ?_
  refine nX1_byteAt_5 ?_
  refine nX1_byteAt_8 (by omega) (by omega) (fun z => absurd z (by omega)) (fun _ => ?_)
  refine sX1_byteAt_11 rfl ?_
  refine jX1_byteAt_12 (by assumption) (by assumption) ?_
  refine sX1_byteAt_15 rfl ?_
  refine jX1_byteAt_16 (by assumption) (by omega) (by omega) ?_
  rw [(hT q hq).1]
  refine sX1_byteAt_17 ?_
  exact sX1_byteAt_21 k
theorem c_begins {a k : Nat} (hW : CW h w) (hT : WT J w T) (hN : WN J w so ln np nm T c) (hk : k < c) (ha : a + ln k ≤ 10240) (k1 : (∀ i, i < ln k → nm k i = T (a + i)) → Q (some (.int 1)) (xJ h J)) (k0 : ¬ (∀ i, i < ln k → nm k i = T (a + i)) → Q (some (.int 0)) (xJ h J)) : ac g l mX1_begins [.ref w, .int (nI k), .int (nI a)] (xJ h J) Q := by
  refine ac_of (by decide) (Nat.le_of_ble_eq_true rfl) ?_
  have hW' := hW
  obtain ⟨t1, ⟨p0, p1, p2, p3, p4, p5⟩, t2, ⟨t6, t7, t8, -⟩, -⟩ := hW
  obtain ⟨n1, n2, n3⟩ := hN
  obtain ⟨⟨a1, a2⟩, ⟨b1, b2, b3⟩, ⟨c1, c2⟩, d1⟩ := n3 k hk
  refine nX1_begins_0 ?_
  refine sX1_begins_1 ?_
  suffices H : ∀ f i lv0, i + f = ln k → (∀ j, j < i → nm k j = T (a + j)) → (∀ z ∈ ([(0, .ref w), (1, .int (nI k)), (2, .int (nI a)), (3, .int (nI i))] : List (Nat × Value)), z ∈ lv0) → aw g l mX1_begins 2 lv0 [] (xJ h J) Q from H (ln k) 0 _ (by omega) (fun j hj => by omega) (fun z hz => by simp only [List.mem_cons, List.not_mem_nil, or_false] at hz; rcases hz with rfl | rfl | rfl | rfl <;> exact xlk_mem rfl)
  intro f
  induction f with
  | zero =>
    intro i lv0 hi hj hlv
    refine aw_lv hlv ?_
    refine sX1_begins_2 rfl ?_
    refine sX1_begins_3 rfl ?_
    refine jX1_begins_4 (by assumption) (by assumption) ?_
    refine sX1_begins_7 rfl ?_
    refine jX1_begins_8 (by assumption) (by omega) (by omega) ?_
    rw [b1]
    refine nX1_begins_9 (by omega) (by omega) (fun _ => ?_) (fun z => absurd z (by omega))
    refine sX1_begins_42 ?_
    exact sX1_begins_43 (Or.inr rfl) (k1 (fun j hj' => hj j (by omega)))
  | succ f ih =>
    intro i lv0 hi hj hlv
    refine aw_lv hlv ?_
    refine sX1_begins_2 rfl ?_
    refine sX1_begins_3 rfl ?_
    refine jX1_begins_4 (by assumption) (by assumption) ?_
    refine sX1_begins_7 rfl ?_
    refine jX1_begins_8 (by assumption) (by omega) (by omega) ?_
    rw [b1]
    refine nX1_begins_9 (by omega) (by omega) (fun z => absurd z (by omega)) (fun _ => ?_)
    refine sX1_begins_12 rfl ?_
    refine sX1_begins_13 rfl ?_
    refine jX1_begins_14 (by assumption) (by assumption) ?_
    refine sX1_begins_17 rfl ?_
    refine jX1_begins_18 (by assumption) (by omega) (by omega) ?_
    rw [c1]
    refine sX1_begins_19 rfl ?_
    refine nX1_begins_20 ?_
    refine jX1_begins_21 (Nat.le_of_ble_eq_true rfl) (by assumption) ?_
    refine c_byteAt1 hW' hT (by omega) ?_
    refine sX1_begins_24 rfl ?_
    refine sX1_begins_25 rfl ?_
    refine sX1_begins_26 rfl ?_
    refine nX1_begins_27 ?_
    refine jX1_begins_28 (Nat.le_of_ble_eq_true rfl) (by assumption) ?_
    refine c_byteAt1 hW' hT (by omega) ?_
    refine sX1_begins_31 (fun z => ?_) (fun z => ?_)
    · refine nX1_begins_36 rfl ?_
      refine sX1_begins_39 ?_
      refine ih (i + 1) _ (by omega) (fun j hj' => ?_) (fun z hz => by simp only [List.mem_cons, List.not_mem_nil, or_false] at hz; rcases hz with rfl | rfl | rfl | rfl <;> exact xlk_mem rfl)
      rcases Nat.eq_or_lt_of_le (Nat.le_of_lt_succ hj') with e | e
      · rw [e, d1 i (by omega)]; exact (sb_inj (hT _ (by omega)).2 (hT _ (by omega)).2).mp z
      · exact hj j e
    · refine sX1_begins_34 ?_
      refine sX1_begins_35 (Or.inl rfl) (k0 (fun y => z ?_))
      rw [← d1 i (by omega), y i (by omega)]
theorem c_find {a n : Nat} {pf : Bool} {x : Int32} (hW : CW h w) (hT : WT J w T) (hN : WN J w so ln np nm T c) (ha : a + n ≤ 10240) (hx : x = if pf = true then 1 else 0) (k : Q (some (.int (oI (fd (pG so ln nm pf T a n) 0 c)))) (xJ h J)) : ac g l mX1_find [.ref w, .int (nI a), .int (nI n), .int x] (xJ h J) Q := by
  refine ac_of (by decide) (Nat.le_of_ble_eq_true rfl) ?_
  have hW' := hW
  have hN' := hN
  obtain ⟨t1, ⟨p0, p1, p2, p3, p4, p5⟩, t2, ⟨t6, t7, t8, -⟩, -⟩ := hW
  obtain ⟨n1, n2, n3⟩ := hN
  refine nX1_find_0 ?_
  refine sX1_find_1 ?_
  suffices H : ∀ f i lv0, i + f = c → Q (some (.int (oI (fd (pG so ln nm pf T a n) i f)))) (xJ h J) → (∀ z ∈ ([(0, .ref w), (1, .int (nI a)), (2, .int (nI n)), (3, .int x), (4, .int (nI i))] : List (Nat × Value)), z ∈ lv0) → aw g l mX1_find 3 lv0 [] (xJ h J) Q from H c 0 _ (by omega) k (fun z hz => by simp only [List.mem_cons, List.not_mem_nil, or_false] at hz; rcases hz with rfl | rfl | rfl | rfl | rfl <;> exact xlk_mem rfl)
  intro f
  induction f with
  | zero =>
    intro i lv0 hi hq hlv
    refine aw_lv hlv ?_
    refine sX1_find_3 rfl ?_
    refine sX1_find_5 rfl ?_
    refine jX1_find_6 (by assumption) ?_
    rw [n1]
    refine nX1_find_9 (by omega) (by omega) (fun _ => ?_) (fun z => absurd z (by omega))
    refine sX1_find_74 ?_
    exact sX1_find_75 hq
  | succ f ih =>
    intro i lv0 hi hq hlv
    refine aw_lv hlv ?_
    obtain ⟨⟨a1, a2⟩, ⟨b1, b2, b3⟩, ⟨c1, c2⟩, d1⟩ := n3 i (by omega)
    have hq' : Q (some (.int (oI (if pG so ln nm pf T a n i = true then some i else fd (pG so ln nm pf T a n) (i + 1) f)))) (xJ h J) := hq
    have skip : ∀ lv1 : List (Nat × Value), pG so ln nm pf T a n i = false → (∀ z ∈ ([(0, .ref w), (1, .int (nI a)), (2, .int (nI n)), (3, .int x), (4, .int (nI i))] : List (Nat × Value)), z ∈ lv1) → aw g l mX1_find 68 lv1 [] (xJ h J) Q := fun lv1 y hlv1 => by
      refine aw_lv hlv1 ?_
      rw [if_neg (by rw [y]; decide)] at hq'
      refine nX1_find_68 rfl ?_
      refine sX1_find_71 ?_
      exact ih (i + 1) _ (by omega) hq' (fun z hz => by simp only [List.mem_cons, List.not_mem_nil, or_false] at hz; rcases hz with rfl | rfl | rfl | rfl | rfl <;> exact xlk_mem rfl)
    have right : ∀ (y : Int32) (lv1 : List (Nat × Value)), (y = if decide (so i = 2) == pf then 1 else 0) → (∀ z ∈ ([(0, .ref w), (1, .int (nI a)), (2, .int (nI n)), (3, .int x), (4, .int (nI i))] : List (Nat × Value)), z ∈ lv1) → aw g l mX1_find 37 lv1 [.int y] (xJ h J) Q := by
      intro y lv1 hy hlv1
      refine aw_lv hlv1 ?_
      refine sX1_find_37 ?_
      refine sX1_find_39 rfl ?_
      cases e : (decide (so i = 2) == pf) with
      | false =>
        rw [e] at hy
        refine sX1_find_41 (fun _ => skip _ (by unfold pG; rw [e]; rfl) (fun z hz => by simp only [List.mem_cons, List.not_mem_nil, or_false] at hz; rcases hz with rfl | rfl | rfl | rfl | rfl <;> exact xlk_mem rfl)) (fun z => absurd hy z)
      | true =>
        rw [e] at hy
        refine sX1_find_41 (fun z => by rw [hy] at z; exact absurd z (by decide)) (fun _ => ?_)
        refine sX1_find_44 rfl ?_
        refine jX1_find_45 (by assumption) (by assumption) ?_
        refine sX1_find_48 rfl ?_
        refine jX1_find_50 (by assumption) (by omega) (by omega) ?_
        refine sX1_find_51 rfl ?_
        rw [b1]
        refine nX1_find_52 (by omega) (by omega) (fun z => skip _ (by unfold pG; rw [e]; exact bF nq_iff (fun v => z v.1)) (fun z hz => by simp only [List.mem_cons, List.not_mem_nil, or_false] at hz; rcases hz with rfl | rfl | rfl | rfl | rfl <;> exact xlk_mem rfl)) (fun z => ?_)
        refine sX1_find_55 rfl ?_
        refine sX1_find_56 rfl ?_
        refine sX1_find_58 rfl ?_
        refine jX1_find_59 (Nat.le_of_ble_eq_true rfl) (by assumption) ?_
        refine c_begins hW' hT hN' (by omega) (by omega) (fun v => ?_) (fun v => ?_)
        · refine sX1_find_62 (fun u => absurd u (by decide)) (fun _ => ?_)
          rw [if_pos (by unfold pG; rw [e]; exact nq_iff.mpr ⟨z, z ▸ v⟩)] at hq'
          refine sX1_find_65 rfl ?_
          exact sX1_find_67 hq'
        · refine sX1_find_62 (fun _ => ?_) (fun u => absurd rfl u)
          exact skip _ (by unfold pG; rw [e]; exact bF nq_iff (fun u => v (z ▸ u.2))) (fun z hz => by simp only [List.mem_cons, List.not_mem_nil, or_false] at hz; rcases hz with rfl | rfl | rfl | rfl | rfl <;> exact xlk_mem rfl)
    have second : ∀ (y : Int32) (lv1 : List (Nat × Value)), (y = if so i = 2 then 1 else 0) → (∀ z ∈ ([(0, .ref w), (1, .int (nI a)), (2, .int (nI n)), (3, .int x), (4, .int (nI i))] : List (Nat × Value)), z ∈ lv1) → aw g l mX1_find 28 lv1 [.int y] (xJ h J) Q := by
      intro y lv1 hy hlv1
      refine aw_lv hlv1 ?_
      refine sX1_find_28 rfl ?_
      refine sX1_find_29 (fun z => ?_) (fun z => ?_)
      · refine sX1_find_36 ?_
        refine right _ _ ?_ (fun z hz => by simp only [List.mem_cons, List.not_mem_nil, or_false] at hz; rcases hz with rfl | rfl | rfl | rfl | rfl <;> exact xlk_mem rfl)
        rw [if_neg]
        rw [hy, hx] at z
        intro v
        have : pf = decide (so i = 2) := (beq_iff_eq.mp v).symm
        rw [this] at z
        by_cases u : so i = 2
        · rw [if_pos u, if_pos (by simpa using u)] at z; exact z rfl
        · rw [if_neg u, if_neg (by simpa using u)] at z; exact z rfl
      · refine sX1_find_32 ?_
        refine sX1_find_33 ?_
        refine right _ _ ?_ (fun z hz => by simp only [List.mem_cons, List.not_mem_nil, or_false] at hz; rcases hz with rfl | rfl | rfl | rfl | rfl <;> exact xlk_mem rfl)
        rw [if_pos]
        rw [hy, hx] at z
        refine beq_iff_eq.mpr ?_
        by_cases u : so i = 2
        · rw [if_pos u] at z
          cases pf with
          | true => simpa using u
          | false => exact absurd z (by decide)
        · rw [if_neg u] at z
          cases pf with
          | true => exact absurd z (by decide)
          | false => simpa using u
    refine sX1_find_3 rfl ?_
    refine sX1_find_5 rfl ?_
    refine jX1_find_6 (by assumption) ?_
    rw [n1]
    refine nX1_find_9 (by omega) (by omega) (fun z => absurd z (by omega)) (fun _ => ?_)
    refine sX1_find_12 rfl ?_
    refine jX1_find_13 (by assumption) (by assumption) ?_
    refine sX1_find_16 rfl ?_
    refine jX1_find_18 (by assumption) (by omega) (by omega) ?_
    rw [a1]
    refine nX1_find_19 ?_
    refine nX1_find_20 (by omega) (by omega) (fun z => ?_) (fun z => ?_)
    · refine sX1_find_27 ?_
      exact second _ _ (by rw [if_neg z]) (fun z hz => by simp only [List.mem_cons, List.not_mem_nil, or_false] at hz; rcases hz with rfl | rfl | rfl | rfl | rfl <;> exact xlk_mem rfl)
    · refine sX1_find_23 ?_
      refine sX1_find_24 ?_
      exact second _ _ (by rw [if_pos z]) (fun z hz => by simp only [List.mem_cons, List.not_mem_nil, or_false] at hz; rcases hz with rfl | rfl | rfl | rfl | rfl <;> exact xlk_mem rfl)
theorem c_findThing {a n : Nat} (hW : CW h w) (hT : WT J w T) (hN : WN J w so ln np nm T c) (hn : 0 < n) (ha : a + n ≤ 10240) (k : Q (some (.int (oI (fT so ln nm c T a n)))) (xJ h J)) : ac g l mX1_findThing [.ref w, .int (nI a), .int (nI n)] (xJ h J) Q := by
  refine ac_of (by decide) (Nat.le_of_ble_eq_true rfl) ?_
  have t1 := hW.1
  have n2 := hN.2.1
  refine sX1_findThing_0 rfl ?_
  refine sX1_findThing_1 rfl ?_
  refine sX1_findThing_2 rfl ?_
  refine sX1_findThing_3 ?_
  refine jX1_findThing_4 (Nat.le_of_ble_eq_true rfl) (by assumption) ?_
  refine c_find (pf := false) hW hT hN ha rfl ?_
  have keep : ¬ (fM so ln nm c T a n = none ∧ 1 < n ∧ T (a + n - 1) = 115) → ∀ lv1 : List (Nat × Value), (∀ z ∈ ([(3, .int (oI (fM so ln nm c T a n)))] : List (Nat × Value)), z ∈ lv1) → aw g l mX1_findThing 42 lv1 [] (xJ h J) Q := fun y lv1 hlv1 => by
    refine aw_lv hlv1 ?_
    unfold fT at k
    rw [if_neg y] at k
    refine sX1_findThing_42 rfl ?_
    exact sX1_findThing_43 k
  show aw g l mX1_findThing 7 _ [.int (oI (fM so ln nm c T a n))] _ Q
  refine sX1_findThing_7 ?_
  refine sX1_findThing_8 rfl ?_
  refine sX1_findThing_9 ?_
  cases e : fM so ln nm c T a n with
  | some i =>
    refine sX1_findThing_10 (fun _ => ?_) (fun z => absurd z ?_)
    · exact keep (by rw [e]; rintro ⟨z, -⟩; cases z) _ (by rw [e]; exact (fun z hz => by simp only [List.mem_cons, List.not_mem_nil, or_false] at hz; rcases hz with rfl <;> exact xlk_mem rfl))
    · obtain ⟨-, z2, -⟩ := fd_some e
      exact oI_neg (by omega)
  | none =>
    refine sX1_findThing_10 (fun z => absurd rfl z) (fun _ => ?_)
    refine sX1_findThing_13 rfl ?_
    refine nX1_findThing_14 ?_
    refine nX1_findThing_15 (by omega) (by omega) (fun z => ?_) (fun z => ?_)
    · exact keep (fun y => by omega) _ (by rw [e]; exact (fun z hz => by simp only [List.mem_cons, List.not_mem_nil, or_false] at hz; rcases hz with rfl <;> exact xlk_mem rfl))
    refine sX1_findThing_18 rfl ?_
    refine sX1_findThing_19 rfl ?_
    refine sX1_findThing_20 rfl ?_
    refine nX1_findThing_21 ?_
    refine nX1_findThing_22 ?_
    refine nX1_findThing_23 (by omega) ?_
    refine jX1_findThing_24 (Nat.le_of_ble_eq_true rfl) (by assumption) ?_
    refine c_byteAt1 hW hT (by omega) ?_
    refine nX1_findThing_27 ?_
    refine sX1_findThing_29 (fun y => ?_) (fun y => ?_)
    · rw [sb_eq (hT _ (by omega)).2 (by decide)] at y
      exact keep (fun v => y v.2.2) _ (by rw [e]; exact (fun z hz => by simp only [List.mem_cons, List.not_mem_nil, or_false] at hz; rcases hz with rfl <;> exact xlk_mem rfl))
    rw [sb_eq (hT _ (by omega)).2 (by decide)] at y
    refine sX1_findThing_32 rfl ?_
    refine sX1_findThing_33 rfl ?_
    refine sX1_findThing_34 rfl ?_
    refine nX1_findThing_35 ?_
    refine nX1_findThing_36 (by omega) ?_
    refine sX1_findThing_37 ?_
    refine jX1_findThing_38 (Nat.le_of_ble_eq_true rfl) (by assumption) ?_
    refine c_find (pf := false) hW hT hN (by omega) rfl ?_
    unfold fT at k
    rw [if_pos ⟨e, z, y⟩] at k
    refine sX1_findThing_41 ?_
    refine sX1_findThing_42 rfl ?_
    exact sX1_findThing_43 k
theorem c_findMeaning {a n : Nat} (hW : CW h w) (hT : WT J w T) (hN : WN J w so ln np nm T c) (hn : 0 < n) (ha : a + n ≤ 10240) (hu : ∀ k k', k < c → k' < c → so k = 2 → so k' = 2 → ln k = ln k' → (∀ i, i < ln k → nm k i = nm k' i) → k = k') (k : ∀ J', (∀ r, r ≠ w → J' r = J r) → (∀ j, j ≠ 11 → j ≠ 12 → J' w j = J w j) → J' w 11 = oI (mng so ln nm c T a n).1 → J' w 12 = oI (mng so ln nm c T a n).2 → Q none (xJ h J')) : ac g l mX1_findMeaning [.ref w, .int (nI a), .int (nI n)] (xJ h J) Q := by
  refine ac_of (by decide) (Nat.le_of_ble_eq_true rfl) ?_
  have hW' := hW
  have n3 := hN.2.2
  have n2 := hN.2.1
  obtain ⟨t1, ⟨p0, p1, p2, p3, p4, p5⟩, t2, ⟨t6, t7, t8, -⟩, -⟩ := hW
  have wn : ∀ J1 : Nat → Nat → Int32, (∀ r, r ≠ w → J1 r = J r) → (∀ j, j ≠ 11 → j ≠ 12 → J1 w j = J w j) → WN J1 w so ln np nm T c ∧ WT J1 w T := fun J1 r1 r2 => by
    refine ⟨⟨by rw [r2 9 (by decide) (by decide)]; exact hN.1, n2, fun i hi => ?_⟩, fun q hq => by rw [r1 _ (by omega)]; exact hT q hq⟩
    rw [r1 _ (by omega), r1 _ (by omega), r1 _ (by omega)]
    exact n3 i hi
  refine sX1_findMeaning_0 rfl ?_
  refine sX1_findMeaning_1 ?_
  refine jX1_findMeaning_2 (by assumption) ?_
  refine sX1_findMeaning_5 rfl ?_
  refine sX1_findMeaning_6 rfl ?_
  refine sX1_findMeaning_7 rfl ?_
  refine sX1_findMeaning_8 rfl ?_
  refine jX1_findMeaning_9 (Nat.le_of_ble_eq_true rfl) (by assumption) ?_
  obtain ⟨w1, w2⟩ := wn (xup2 J w 11 (-1)) (fun r hr => xup2_r hr) (fun j hj _ => xup2_n hj)
  refine c_findThing hW' w2 w1 hn ha ?_
  refine jX1_findMeaning_12 (by assumption) ?_
  refine sX1_findMeaning_15 rfl ?_
  refine jX1_findMeaning_16 (by assumption) ?_
  rw [xup2_s]
  obtain ⟨J1, hJ1⟩ : ∃ J1, J1 = xup2 (xup2 J w 11 (-1)) w 12 (oI (fT so ln nm c T a n)) := ⟨_, rfl⟩
  have r1 : ∀ r, r ≠ w → J1 r = J r := fun r hr => by rw [hJ1, xup2_r hr, xup2_r hr]
  have r2 : ∀ j, j ≠ 11 → j ≠ 12 → J1 w j = J w j := fun j a1 a2 => by rw [hJ1, xup2_n a2, xup2_n a1]
  have e11 : J1 w 11 = -1 := by rw [hJ1, xup2_n (by decide), xup2_s]
  have e12 : J1 w 12 = oI (fT so ln nm c T a n) := by rw [hJ1, xup2_s]
  rw [← hJ1]
  refine sX1_findMeaning_19 ?_
  have fTlt : ∀ {a n t : Nat}, fT so ln nm c T a n = some t → t < c := fun {a n t} z => by
    unfold fT at z
    split at z
    · obtain ⟨-, y, -⟩ := fd_some z; omega
    · obtain ⟨-, y, -⟩ := fd_some z; omega
  cases e : fT so ln nm c T a n with
  | some t =>
    have hm : mng so ln nm c T a n = (none, some t) := by unfold mng; rw [if_neg (by rw [e]; intro z; cases z), e]
    refine sX1_findMeaning_20 (fun z => absurd z (oI_neg (by have := fTlt e; omega))) (fun _ => ?_)
    exact sX1_findMeaning_23 (k J1 r1 r2 (by rw [hm]; exact e11) (by rw [hm, e12, e]))
  | none =>
    have hm : mng so ln nm c T a n = mr so ln nm c T a n (n - 1) := by unfold mng; rw [if_pos e]
    rw [hm] at k
    refine sX1_findMeaning_20 (fun _ => ?_) (fun z => absurd rfl z)
    have hl : ∀ i, i < c → 0 < ln i := fun i hi => (n3 i hi).2.1.2.1
    -- what has been found so far
    obtain ⟨Best, hBest⟩ : ∃ Best : Nat → Nat → Option Nat → Option Nat → Prop, Best = fun i lo p t => (p = none ∧ t = none ∧ lo = 0 ∧ ∀ j, j < i → so j = 2 → ln j < n → nq ln nm T a (ln j) j = true → fT so ln nm c T (a + ln j) (n - ln j) = none) ∨ ∃ k0 t0, p = some k0 ∧ t = some t0 ∧ k0 < i ∧ lo = ln k0 ∧ so k0 = 2 ∧ ln k0 < n ∧ nq ln nm T a (ln k0) k0 = true ∧ fT so ln nm c T (a + ln k0) (n - ln k0) = some t0 ∧ ∀ j, j < i → so j = 2 → ln j < n → nq ln nm T a (ln j) j = true → ln k0 < ln j → fT so ln nm c T (a + ln j) (n - ln j) = none := ⟨_, rfl⟩
    refine nX1_findMeaning_24 ?_
    refine sX1_findMeaning_25 ?_
    refine nX1_findMeaning_26 ?_
    refine sX1_findMeaning_27 ?_
    suffices H : ∀ f i lo p t (J2 : Nat → Nat → Int32) (lv0 : List (Nat × Value)), i + f = c → lo ≤ 24 → Best i lo p t → (∀ r, r ≠ w → J2 r = J r) → (∀ j, j ≠ 11 → j ≠ 12 → J2 w j = J w j) → J2 w 11 = oI p → J2 w 12 = oI t → (∀ z ∈ ([(0, .ref w), (1, .int (nI a)), (2, .int (nI n)), (3, .int (nI lo)), (4, .int (nI i))] : List (Nat × Value)), z ∈ lv0) → aw g l mX1_findMeaning 29 lv0 [] (xJ h J2) Q from H c 0 0 none none J1 _ (by omega) (by omega) (by rw [hBest]; exact Or.inl ⟨rfl, rfl, rfl, fun j hj => by omega⟩) r1 r2 e11 (by rw [e12, e]) (fun z hz => by simp only [List.mem_cons, List.not_mem_nil, or_false] at hz; rcases hz with rfl | rfl | rfl | rfl | rfl <;> exact xlk_mem rfl)
    intro f
    induction f with
    | zero =>
      intro i lo p t J2 lv0 hi hlo hb s1 s2 s11 s12 hlv
      refine aw_lv hlv ?_
      obtain ⟨w1, w2⟩ := wn J2 s1 s2
      refine sX1_findMeaning_29 rfl ?_
      refine sX1_findMeaning_31 rfl ?_
      refine jX1_findMeaning_32 (by assumption) ?_
      rw [w1.1]
      refine nX1_findMeaning_35 (by omega) (by omega) (fun _ => ?_) (fun z => absurd z (by omega))
      have hf : mr so ln nm c T a n (n - 1) = (p, t) := by
        rw [hBest] at hb
        rcases hb with ⟨b1, b2, b3, b4⟩ | ⟨k0, t0, b1, b2, b3, b4, b5, b6, b7, b8, b9⟩
        · rw [b1, b2]
          exact mr_none hl (fun j hj => b4 j (by omega)) _ (by omega)
        · rw [b1, b2]
          refine mr_some hl (by omega) b5 b6 b7 b8 (fun j hj y1 y2 => ?_) (fun j hj => b9 j (by omega)) _ (by omega) (by omega)
          obtain ⟨v1, v2⟩ := nq_iff.mp y2
          obtain ⟨u1, u2⟩ := nq_iff.mp b7
          exact hu j k0 hj (by omega) y1 b5 v1 (fun q hq => by rw [v2 q (by omega), u2 q (by omega)])
      exact sX1_findMeaning_121 (k J2 s1 s2 (by rw [hf]; exact s11) (by rw [hf]; exact s12))
    | succ f ih =>
      intro i lo p t J2 lv0 hi hlo hb s1 s2 s11 s12 hlv
      refine aw_lv hlv ?_
      obtain ⟨w1, w2⟩ := wn J2 s1 s2
      obtain ⟨⟨a1, a2⟩, ⟨b1, b2, b3⟩, ⟨c1, c2⟩, d1⟩ := w1.2.2 i (by omega)
      have skip : ∀ lv1 : List (Nat × Value), (so i = 2 → ln i < n → nq ln nm T a (ln i) i = true → ¬ ln i ≤ lo → fT so ln nm c T (a + ln i) (n - ln i) = none) → (∀ z ∈ ([(0, .ref w), (1, .int (nI a)), (2, .int (nI n)), (3, .int (nI lo)), (4, .int (nI i))] : List (Nat × Value)), z ∈ lv1) → aw g l mX1_findMeaning 115 lv1 [] (xJ h J2) Q := fun lv1 y hlv1 => by
        refine aw_lv hlv1 ?_
        refine nX1_findMeaning_115 rfl ?_
        refine sX1_findMeaning_118 ?_
        refine ih (i + 1) lo p t J2 _ (by omega) hlo ?_ s1 s2 s11 s12 (fun z hz => by simp only [List.mem_cons, List.not_mem_nil, or_false] at hz; rcases hz with rfl | rfl | rfl | rfl | rfl <;> exact xlk_mem rfl)
        rw [hBest] at hb ⊢
        rcases hb with ⟨v1, v2, v3, v4⟩ | ⟨k0, t0, v1, v2, v3, v4, v5, v6, v7, v8, v9⟩
        · refine Or.inl ⟨v1, v2, v3, fun j hj x1 x2 x3 => ?_⟩
          rcases Nat.eq_or_lt_of_le (Nat.le_of_lt_succ hj) with e' | e'
          · subst e'; exact y x1 x2 x3 (by omega)
          · exact v4 j e' x1 x2 x3
        · refine Or.inr ⟨k0, t0, v1, v2, by omega, v4, v5, v6, v7, v8, fun j hj x1 x2 x3 x4 => ?_⟩
          rcases Nat.eq_or_lt_of_le (Nat.le_of_lt_succ hj) with e' | e'
          · subst e'; exact y x1 x2 x3 (by omega)
          · exact v9 j e' x1 x2 x3 x4
      refine sX1_findMeaning_29 rfl ?_
      refine sX1_findMeaning_31 rfl ?_
      refine jX1_findMeaning_32 (by assumption) ?_
      rw [w1.1]
      refine nX1_findMeaning_35 (by omega) (by omega) (fun z => absurd z (by omega)) (fun _ => ?_)
      refine sX1_findMeaning_38 rfl ?_
      refine jX1_findMeaning_39 (by assumption) (by assumption) ?_
      refine sX1_findMeaning_42 rfl ?_
      refine jX1_findMeaning_44 (by assumption) (by omega) (by omega) ?_
      rw [b1]
      refine sX1_findMeaning_45 ?_
      refine sX1_findMeaning_47 rfl ?_
      refine jX1_findMeaning_48 (by assumption) (by assumption) ?_
      refine sX1_findMeaning_51 rfl ?_
      refine jX1_findMeaning_53 (by assumption) (by omega) (by omega) ?_
      rw [a1]
      refine nX1_findMeaning_54 ?_
      refine nX1_findMeaning_55 (by omega) (by omega) (fun z => skip _ (fun y => absurd y z) (fun z hz => by simp only [List.mem_cons, List.not_mem_nil, or_false] at hz; rcases hz with rfl | rfl | rfl | rfl | rfl <;> exact xlk_mem rfl)) (fun z1 => ?_)
      refine sX1_findMeaning_58 rfl ?_
      refine sX1_findMeaning_60 rfl ?_
      refine nX1_findMeaning_61 (by omega) (by omega) (fun z => skip _ (fun _ _ _ y => absurd z y) (fun z hz => by simp only [List.mem_cons, List.not_mem_nil, or_false] at hz; rcases hz with rfl | rfl | rfl | rfl | rfl <;> exact xlk_mem rfl)) (fun z2 => ?_)
      refine sX1_findMeaning_64 rfl ?_
      refine sX1_findMeaning_66 rfl ?_
      refine nX1_findMeaning_67 (by omega) (by omega) (fun z => skip _ (fun _ y => absurd y (by omega)) (fun z hz => by simp only [List.mem_cons, List.not_mem_nil, or_false] at hz; rcases hz with rfl | rfl | rfl | rfl | rfl <;> exact xlk_mem rfl)) (fun z3 => ?_)
      refine sX1_findMeaning_70 rfl ?_
      refine sX1_findMeaning_71 rfl ?_
      refine sX1_findMeaning_73 rfl ?_
      refine jX1_findMeaning_74 (Nat.le_of_ble_eq_true rfl) (by assumption) ?_
      refine c_begins hW' w2 w1 (by omega) (by omega) (fun v => ?_) (fun v => ?_)
      · refine sX1_findMeaning_77 (fun u => absurd u (by decide)) (fun _ => ?_)
        have nqi : nq ln nm T a (ln i) i = true := nq_iff.mpr ⟨rfl, v⟩
        refine sX1_findMeaning_80 rfl ?_
        refine sX1_findMeaning_81 rfl ?_
        refine sX1_findMeaning_82 rfl ?_
        refine nX1_findMeaning_84 ?_
        refine sX1_findMeaning_85 rfl ?_
        refine sX1_findMeaning_86 rfl ?_
        refine nX1_findMeaning_88 (by omega) ?_
        refine jX1_findMeaning_89 (Nat.le_of_ble_eq_true rfl) (by assumption) ?_
        refine c_findThing hW' w2 w1 (by omega) (by omega) ?_
        refine sX1_findMeaning_92 ?_
        refine sX1_findMeaning_94 rfl ?_
        refine sX1_findMeaning_96 ?_
        cases e' : fT so ln nm c T (a + ln i) (n - ln i) with
        | none =>
          refine sX1_findMeaning_97 (fun _ => ?_) (fun u => absurd rfl u)
          exact skip _ (fun _ _ _ _ => e') (fun z hz => by simp only [List.mem_cons, List.not_mem_nil, or_false] at hz; rcases hz with rfl | rfl | rfl | rfl | rfl <;> exact xlk_mem rfl)
        | some t' =>
          refine sX1_findMeaning_97 (fun u => absurd u (oI_neg (by have := fTlt e'; omega))) (fun _ => ?_)
          refine sX1_findMeaning_100 rfl ?_
          refine sX1_findMeaning_101 rfl ?_
          refine jX1_findMeaning_103 (by assumption) ?_
          refine sX1_findMeaning_106 rfl ?_
          refine sX1_findMeaning_107 rfl ?_
          refine jX1_findMeaning_109 (by assumption) ?_
          refine sX1_findMeaning_112 rfl ?_
          refine sX1_findMeaning_114 ?_
          refine nX1_findMeaning_115 rfl ?_
          refine sX1_findMeaning_118 ?_
          refine ih (i + 1) (ln i) (some i) (some t') _ _ (by omega) b3 ?_ (fun r hr => by rw [xup2_r hr, xup2_r hr]; exact s1 r hr) (fun j y1 y2 => by rw [xup2_n y2, xup2_n y1]; exact s2 j y1 y2) (by rw [xup2_n (by decide), xup2_s]; rfl) (by rw [xup2_s]) (fun z hz => by simp only [List.mem_cons, List.not_mem_nil, or_false] at hz; rcases hz with rfl | rfl | rfl | rfl | rfl <;> exact xlk_mem rfl)
          rw [hBest] at hb ⊢
          refine Or.inr ⟨i, t', rfl, rfl, by omega, rfl, z1, z3, nqi, e', fun j hj x1 x2 x3 x4 => ?_⟩
          rcases Nat.eq_or_lt_of_le (Nat.le_of_lt_succ hj) with e'' | e''
          · subst e''; omega
          · rcases hb with ⟨v1, v2, v3, v4⟩ | ⟨k0, t0, v1, v2, v3, v4, v5, v6, v7, v8, v9⟩
            · exact v4 j e'' x1 x2 x3
            · exact v9 j e'' x1 x2 x3 (by omega)
      · refine sX1_findMeaning_77 (fun _ => ?_) (fun u => absurd rfl u)
        exact skip _ (fun _ _ y _ => absurd (nq_iff.mp y).2 v) (fun z hz => by simp only [List.mem_cons, List.not_mem_nil, or_false] at hz; rcases hz with rfl | rfl | rfl | rfl | rfl <;> exact xlk_mem rfl)
end Names1
