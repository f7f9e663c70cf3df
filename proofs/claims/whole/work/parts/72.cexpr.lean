/-! ===== the class's readExpr ===== -/
def op (e : Nat × Nat) : List (Nat × Nat) := if e.1 = 0 then [] else [e]
def fl (x : Lv) : List (Nat × Nat) := op x.2.2 ++ (op x.2.1 ++ op x.1)
def fO : List Lv → List (Nat × Nat)
  | [] => []
  | y :: ys => (10, 0) :: (fl y ++ fO ys)
def wl (x : Lv) : Prop := (x.1.1 = 0 ∨ x.1.1 = 11 ∨ x.1.1 = 12 ∨ x.1.1 = 13) ∧ (x.2.1.1 = 0 ∨ x.2.1.1 = 14 ∨ x.2.1.1 = 15) ∧ (x.2.2.1 = 0 ∨ x.2.2.1 = 16)
def wls : List Lv → Prop
  | [] => True
  | y :: ys => wl y ∧ wls ys
def cl : List Lv → Nat
  | [] => 0
  | y :: ys => (fl y).length + cl ys
theorem op_len (e : Nat × Nat) : (op e).length ≤ 1 := by unfold op; split <;> simp
theorem fl_len (x : Lv) : (fl x).length ≤ 3 := by
  have := op_len x.1; have := op_len x.2.1; have := op_len x.2.2
  unfold fl
  rw [List.length_append, List.length_append]
  omega
theorem cl_len : ∀ ys, cl ys ≤ 3 * ys.length ∧ (fO ys).length = cl ys + ys.length
  | [] => ⟨Nat.le_refl _, rfl⟩
  | y :: ys => by
    obtain ⟨h1, h2⟩ := cl_len ys
    have := fl_len y
    refine ⟨?_, ?_⟩
    · show (fl y).length + cl ys ≤ 3 * (ys.length + 1); omega
    · show (fl y ++ fO ys).length + 1 = (fl y).length + cl ys + (ys.length + 1)
      rw [List.length_append]; omega
theorem op_em (e : Nat × Nat) : (op e).map eo = em e := by unfold op em eo; split <;> rfl
theorem op_in {e f : Nat × Nat} (h : f ∈ op e) : f = e ∧ e.1 ≠ 0 := by
  unfold op at h
  split at h
  · cases h
  · exact ⟨List.mem_singleton.mp h, by assumption⟩
theorem em_len (e : Nat × Nat) : (em e).length = (op e).length := by rw [← op_em, List.length_map]
theorem fO_B {rr : Nat} (h : 0 < rr) (ys : List Lv) : fO ys = [] ∨ ∃ e B', fO ys = e :: B' ∧ rkO e.1 < rr ∧ e.1 ≤ 16 := by
  cases ys with
  | nil => exact Or.inl rfl
  | cons y ys => exact Or.inr ⟨_, _, rfl, h, by decide⟩
theorem op_B {rr : Nat} {e : Nat × Nat} {B : List (Nat × Nat)} (h : e.1 ≠ 0 → rkO e.1 < rr ∧ e.1 ≤ 16) (hB : B = [] ∨ ∃ e B', B = e :: B' ∧ rkO e.1 < rr ∧ e.1 ≤ 16) : op e ++ B = [] ∨ ∃ e' B', op e ++ B = e' :: B' ∧ rkO e'.1 < rr ∧ e'.1 ≤ 16 := by
  unfold op
  split
  · exact hB
  · rename_i z; exact Or.inr ⟨e, B, rfl, h z⟩
theorem rk_s {s : Nat} (h : s = 0 ∨ s = 11 ∨ s = 12 ∨ s = 13) (h0 : s ≠ 0) : 1 ≤ rkO s ∧ rkO s < 3 ∧ 10 < s ∧ s ≤ 16 := by rcases h with h | h | h | h <;> subst h <;> first | exact absurd rfl h0 | decide
theorem rk_t {s : Nat} (h : s = 0 ∨ s = 14 ∨ s = 15) (h0 : s ≠ 0) : 3 ≤ rkO s ∧ rkO s < 4 ∧ 10 < s ∧ s ≤ 16 := by rcases h with h | h | h <;> subst h <;> first | exact absurd rfl h0 | decide
theorem rk_r {s : Nat} (h : s = 0 ∨ s = 16) (h0 : s ≠ 0) : 4 ≤ rkO s ∧ 10 < s ∧ s ≤ 16 := by rcases h with h | h <;> subst h <;> first | exact absurd rfl h0 | decide
section CExpr
variable {g : xG} {l : Launch} {h : xH} {Q : Option Value → xH → Prop} {w m u : Nat} {C : Nat → Nat}
theorem c_rel1 {J : Nat → Nat → Int32} {a i dp : Nat} {x : Lv} {ys : List Lv} (hQ : CQ h w) (hx : wl x) (hd : ys.length ≤ 20) (hi : i + (fl x).length ≤ 13668) (hp : PT J w C m a i (fl x ++ fO ys) dp) (k : ∀ J', fC w i J J' → sg J' w i (r1 x) → (r1 x).length = (fl x).length → PT J' w C m a (i + (fl x).length) (fO ys) dp → Q none (xJ h J')) : ac g l mX6_release [.ref (w + 13), .int (nI 1), .ref (w + 2)] (xJ h J) Q := by
  have e1 : (fl x).map eo = r1 x := by unfold fl r1; rw [List.map_append, List.map_append, op_em, op_em, op_em]
  have l1 := fl_len x
  obtain ⟨l2, l3⟩ := cl_len ys
  refine c_release hQ (by decide) (fun e he => ?_) (fO_B (by decide) ys) (by rw [List.length_append]; omega) hi hp (fun J' f1 f2 f3 => k J' f1 (e1 ▸ f2) (by rw [← e1, List.length_map]) f3)
  unfold fl at he
  rcases List.mem_append.mp he with z | z
  · obtain ⟨rfl, z0⟩ := op_in z; have := rk_r hx.2.2 z0; omega
  rcases List.mem_append.mp z with z | z
  · obtain ⟨rfl, z0⟩ := op_in z; have := rk_t hx.2.1 z0; omega
  · obtain ⟨rfl, z0⟩ := op_in z; have := rk_s hx.1 z0; omega
theorem c_rel3 {J : Nat → Nat → Int32} {a i dp : Nat} {x : Lv} {ys : List Lv} (hQ : CQ h w) (hx : wl x) (hd : ys.length ≤ 20) (hi : i + (fl x).length ≤ 13668) (hp : PT J w C m a i (fl x ++ fO ys) dp) (k : ∀ J', fC w i J J' → sg J' w i (r3 x) → (r3 x).length + (op x.1).length = (fl x).length → PT J' w C m a (i + (r3 x).length) (op x.1 ++ fO ys) dp → Q none (xJ h J')) : ac g l mX6_release [.ref (w + 13), .int (nI 3), .ref (w + 2)] (xJ h J) Q := by
  have e0 : (op x.2.2 ++ op x.2.1) ++ op x.1 = fl x := by unfold fl; rw [List.append_assoc]
  have e1 : (op x.2.2 ++ op x.2.1).map eo = r3 x := by unfold r3; rw [List.map_append, op_em, op_em]
  have e2 : (r3 x).length = (op x.2.2 ++ op x.2.1).length := by rw [← e1, List.length_map]
  have e3 : (r3 x).length + (op x.1).length = (fl x).length := by rw [e2, ← List.length_append, e0]
  have l1 := fl_len x
  obtain ⟨l2, l3⟩ := cl_len ys
  have e4 : (op x.2.2 ++ op x.2.1) ++ (op x.1 ++ fO ys) = fl x ++ fO ys := by rw [← List.append_assoc, e0]
  refine c_release (A := op x.2.2 ++ op x.2.1) (B := op x.1 ++ fO ys) hQ (by decide) (fun e he => ?_) (op_B (fun z => ⟨(rk_s hx.1 z).2.1, (rk_s hx.1 z).2.2.2⟩) (fO_B (by decide) ys)) (by rw [e4, List.length_append]; omega) (by rw [← e2]; omega) (by rw [e4]; exact hp) (fun J' f1 f2 f3 => k J' f1 (e1 ▸ f2) e3 (by rw [e2]; exact f3))
  rcases List.mem_append.mp he with z | z
  · obtain ⟨rfl, z0⟩ := op_in z; have := rk_r hx.2.2 z0; omega
  · obtain ⟨rfl, z0⟩ := op_in z; have := rk_t hx.2.1 z0; omega
theorem c_rel4 {J : Nat → Nat → Int32} {a i dp : Nat} {x : Lv} {ys : List Lv} (hQ : CQ h w) (hx : wl x) (hd : ys.length ≤ 20) (hi : i + (fl x).length ≤ 13668) (hp : PT J w C m a i (fl x ++ fO ys) dp) (k : ∀ J', fC w i J J' → sg J' w i (r4 x) → (r4 x).length + ((op x.2.1).length + (op x.1).length) = (fl x).length → PT J' w C m a (i + (r4 x).length) (op x.2.1 ++ (op x.1 ++ fO ys)) dp → Q none (xJ h J')) : ac g l mX6_release [.ref (w + 13), .int (nI 4), .ref (w + 2)] (xJ h J) Q := by
  have e1 : (op x.2.2).map eo = r4 x := op_em _
  have e2 : (r4 x).length = (op x.2.2).length := by rw [← e1, List.length_map]
  have e3 : (r4 x).length + ((op x.2.1).length + (op x.1).length) = (fl x).length := by rw [e2]; unfold fl; rw [List.length_append, List.length_append]
  have l1 := fl_len x
  obtain ⟨l2, l3⟩ := cl_len ys
  have e4 : op x.2.2 ++ (op x.2.1 ++ (op x.1 ++ fO ys)) = fl x ++ fO ys := by unfold fl; rw [List.append_assoc, List.append_assoc]
  refine c_release (A := op x.2.2) (B := op x.2.1 ++ (op x.1 ++ fO ys)) hQ (by decide) (fun e he => ?_) (op_B (fun z => ⟨(rk_t hx.2.1 z).2.1, (rk_t hx.2.1 z).2.2.2⟩) (op_B (fun z => ⟨Nat.lt_succ_of_lt (rk_s hx.1 z).2.1, (rk_s hx.1 z).2.2.2⟩) (fO_B (by decide) ys))) (by rw [e4, List.length_append]; omega) (by rw [← e2]; omega) (by rw [e4]; exact hp) (fun J' f1 f2 f3 => k J' f1 (e1 ▸ f2) e3 (by rw [e2]; exact f3))
  obtain ⟨rfl, z0⟩ := op_in he; have := rk_r hx.2.2 z0; omega
/-- what is to be shown from a state on -/
def KT (u : Nat) (h : xH) (Q : Option Value → xH → Prop) (C : Nat → Nat) (m w i : Nat) (J : Nat → Nat → Int32) (md a : Nat) (x : Lv) (ys : List Lv) : Prop :=
  (∀ J' L e, PM C m md a x ys L true e → fC w i J J' → sg J' w i L → PT J' w C m e (i + L.length) [] 0 → e ≤ m → 3 * (i + L.length + u) ≤ 4 * e + 1 → Q (some (.int 1)) (xJ h J')) ∧
  (∀ J' e, (∃ L, PM C m md a x ys L false e) → fC w i J J' → TJ J' (w + 14) (w + 1) C m → TS J' (w + 14) C m e → e ≤ m → (∃ z, J' (w + 2) 3 = nI z ∧ i ≤ z ∧ z < 13668) → Q (some (.int 0)) (xJ h J'))
theorem KT_s {i md a md' a' : Nat} {J J1 : Nat → Nat → Int32} {x x' : Lv} {ys ys' : List Lv} (A : List St) (rule : ∀ L o e, PM C m md' a' x' ys' L o e → PM C m md a x ys (A ++ L) o e) (f : fC w i J J1) (sA : sg J1 w i A) (k : KT u h Q C m w i J md a x ys) : KT u h Q C m w (i + A.length) J1 md' a' x' ys' := by
  refine ⟨fun J' L e pm f' s' p' he hb => ?_, fun J' e pm f' t1 t2 he hz => ?_⟩
  · refine k.1 J' (A ++ L) e (rule _ _ _ pm) (fC_t f f' (by omega)) (sg_app (sg_c f' (Nat.le_refl _) sA) s') ?_ he ?_
    · rw [List.length_append, ← Nat.add_assoc]; exact p'
    · rw [List.length_append, ← Nat.add_assoc]; exact hb
  · obtain ⟨L, pm⟩ := pm
    exact k.2 J' e ⟨_, rule _ _ _ pm⟩ (fC_t f f' (by omega)) t1 t2 he (by obtain ⟨z, y1, y2, y3⟩ := hz; exact ⟨z, y1, by omega, y3⟩)
theorem KT_0 {i md a md' a' : Nat} {J J1 : Nat → Nat → Int32} {x x' : Lv} {ys ys' : List Lv} (rule : ∀ L o e, PM C m md' a' x' ys' L o e → PM C m md a x ys L o e) (f : fC w i J J1) (k : KT u h Q C m w i J md a x ys) : KT u h Q C m w i J1 md' a' x' ys' := KT_s [] rule f trivial k
variable {J : Nat → Nat → Int32}
/-- NUMBERS and NAMES, numbers below a line -/
theorem c_readOne {a i dp : Nat} {x : Lv} {ys : List Lv} {H : List (Nat × Nat)} {Q1 : Option Value → xH → Prop} (hQ : CQ h w) (ham : a ≤ m) (hi : tkK C m a = 3 → 3 * i ≤ 4 * a) (hi2 : 3 * i ≤ 4 * a + 4) (hk40 : tkK C m a ≠ 40) (hp : PT J w C m a i H dp) (k : KT u h Q C m w i J 0 a x ys) (kf : ∀ J', Q (some (.int 0)) (xJ h J') → Q1 (some (.int 0)) (xJ h J')) (kt : ∀ J' a' i', KT u h Q C m w i' J' 1 a' x ys → PT J' w C m a' i' H dp → a < a' → a' ≤ m → i < i' → (tkK C m a = 2 → i' = i + 1 ∧ (a' = a + 1 → tkK C m a' ≠ 2 ∧ tkK C m a' ≠ 3) ∧ (tkK C m a' = 2 ∨ tkK C m a' = 3 → a + 2 ≤ a')) → (tkK C m a = 3 → i' = i + 1 ∧ (tkK C m a' = 3 → a + 2 ≤ a') ∨ i' = i + 3 ∧ a + 3 ≤ a') → tkK C m a = 2 ∨ tkK C m a = 3 → Q1 (some (.int 1)) (xJ h J')) : ac g l mX6_readOne [.ref (w + 13), .ref (w + 2)] (xJ h J) Q1 := by
  refine ac_of (by decide) (Nat.le_of_ble_eq_true rfl) ?_
  have hQ' := hQ
  obtain ⟨hW, t13, ⟨q0, q1, q2⟩, t16, t17, hK⟩ := hQ
  have t14 := hK.1
  have tc := hW.2.2.2.2.1
  have hp' := hp
  obtain ⟨p1, p2, p3, p4, p5⟩ := hp
  have hC := p1.2.2.1
  have hm := p1.2.1
  have kb := (tkK_big C m a).1
  have adN : tkK C m a = 2 → (tkK C m (nx C m a) = 2 ∨ tkK C m (nx C m a) = 3) → a + 2 ≤ nx C m a := fun z y => by
    have h1 := tkT_gt (C := C) (m := m) (a := a) (tkK_lt (C := C) (by omega))
    have h2 := nx_ge C m a
    rcases Nat.eq_or_lt_of_le h2 with e | e
    · have := adjN hC z e.symm; omega
    · omega
  have adD : tkK C m a = 3 → tkK C m (nx C m a) = 3 → a + 2 ≤ nx C m a := fun z y => by
    have h1 := tkT_gt (C := C) (m := m) (a := a) (tkK_lt (C := C) (by omega))
    have h2 := nx_ge C m a
    rcases Nat.eq_or_lt_of_le h2 with e | e
    · exact absurd y (adjD hC z e.symm)
    · omega
  -- a NAME or a NUMBER is here
  have go : ∀ (t : Int32) (lv0 : List (Nat × Value)), (t = 0 ∧ tkK C m a = 2 ∨ t = 1 ∧ tkK C m a = 3) → (∀ z ∈ ([(0, .ref (w + 13)), (1, .ref (w + 2)), (2, .int t)] : List (Nat × Value)), z ∈ lv0) → aw g l mX6_readOne 34 lv0 [] (xJ h J) Q1 := by
    intro t lv0 ht hlv
    refine aw_lv hlv ?_
    have ha : a < m := tkK_lt (C := C) (by omega)
    have hg := tkT_gt ha (C := C)
    have hle := tkT_le hC ham
    have ng := nx_gt (C := C) ha
    have nl : nx C m a ≤ m := nx_le hC ham
    refine sX6_readOne_34 rfl ?_
    refine sX6_readOne_35 rfl ?_
    refine jX6_readOne_36 (by assumption) (by assumption) ?_
    refine jX6_readOne_39 (by assumption) ?_
    rw [p2.2.1]
    refine sX6_readOne_42 rfl ?_
    refine jX6_readOne_43 (by assumption) (by assumption) ?_
    refine jX6_readOne_46 (by assumption) ?_
    rw [p2.1]
    refine sX6_readOne_49 rfl ?_
    refine jX6_readOne_50 (by assumption) (by assumption) ?_
    refine jX6_readOne_53 (by assumption) ?_
    rw [p2.2.2.1]
    refine sX6_readOne_56 rfl ?_
    refine jX6_readOne_57 (by assumption) (by assumption) ?_
    refine jX6_readOne_60 (by assumption) ?_
    rw [p2.1]
    refine nX6_readOne_63 (by omega) ?_
    refine jX6_readOne_64 (Nat.le_of_ble_eq_true rfl) (by assumption) ?_
    refine c_add2 hW (by omega) hp' (fun J1 f1 f2 f3 f4 => ?_)
    refine sX6_readOne_67 rfl ?_
    refine jX6_readOne_68 (by assumption) (by assumption) ?_
    refine jX6_readOne_71 (Nat.le_of_ble_eq_true rfl) (by assumption) ?_
    refine c_nx6 hQ' ham f4 (fun J2 g1 g2 g3 => ?_)
    have e2 : en J2 w i (tkK C m a, a, tlen C m a) := en_c g2 (Nat.lt_succ_self i) f3
    have F : fC w i J J2 := fC_t f2 g2 (by omega)
    have one : tkK C m a = 2 ∨ (tkK C m a = 3 ∧ tkK C m (nx C m a) ≠ 124) → ∀ lv1 : List (Nat × Value), aw g l mX6_readOne 90 lv1 [] (xJ h J2) Q1 := fun z lv1 => by
      refine sX6_readOne_90 ?_
      refine sX6_readOne_91 (Or.inr rfl) (kt J2 (nx C m a) (i + 1) ?_ g3 ng nl (by omega) (fun z2 => ⟨rfl, fun y => ?_, fun y => adN z2 y⟩) (fun z3 => Or.inl ⟨rfl, fun y => adD z3 y⟩) (by omega))
      · rcases z with z | ⟨z, z'⟩
        · rw [z] at e2
          exact KT_s [(2, a, tlen C m a)] (fun L o e pm => pm_4 z pm) F ⟨e2, trivial⟩ k
        · rw [z] at e2
          exact KT_s [(3, a, tlen C m a)] (fun L o e pm => pm_5 z z' pm) F ⟨e2, trivial⟩ k
      · have := adN z2
        exact ⟨fun v => by have := this (Or.inl v); omega, fun v => by have := this (Or.inr v); omega⟩
    refine sX6_readOne_74 rfl ?_
    rcases ht with ⟨rfl, z⟩ | ⟨rfl, z⟩
    · exact sX6_readOne_75 (fun _ => one (Or.inl z) _) (fun y => absurd rfl y)
    refine sX6_readOne_75 (fun y => absurd y (by decide)) (fun _ => ?_)
    refine sX6_readOne_78 rfl ?_
    refine jX6_readOne_79 (by assumption) (by assumption) ?_
    refine jX6_readOne_82 (by assumption) ?_
    rw [g3.2.1.2.1]
    have kb1 := (tkK_big C m (nx C m a)).1
    refine nX6_readOne_85 ?_
    refine nX6_readOne_87 (by omega) (by omega) (fun y => ?_) (fun y => one (Or.inr ⟨z, y⟩) _)
    have hi3 := hi z
    have n1m : nx C m a < m := tkK_lt (C := C) (by omega)
    have nl2 : nx C m (nx C m a) ≤ m := nx_le hC nl
    have ng2 := nx_gt (C := C) n1m
    refine sX6_readOne_92 rfl ?_
    refine jX6_readOne_93 (by assumption) (by assumption) ?_
    refine jX6_readOne_96 (by assumption) ?_
    rw [g3.2.1.1]
    refine sX6_readOne_99 ?_
    refine sX6_readOne_100 rfl ?_
    refine jX6_readOne_101 (by assumption) (by assumption) ?_
    refine jX6_readOne_104 (Nat.le_of_ble_eq_true rfl) (by assumption) ?_
    refine c_nx6 hQ' nl g3 (fun J3 i1 i2 i3 => ?_)
    refine sX6_readOne_107 rfl ?_
    refine jX6_readOne_108 (by assumption) (by assumption) ?_
    refine jX6_readOne_111 (by assumption) ?_
    rw [i3.2.1.2.1]
    have kb2 := (tkK_big C m (nx C m (nx C m a))).1
    refine nX6_readOne_114 ?_
    refine nX6_readOne_115 (by omega) (by omega) (fun v => ?_) (fun v => ?_)
    · have n2m : nx C m (nx C m a) < m := tkK_lt (C := C) (by omega)
      have nl3 : nx C m (nx C m (nx C m a)) ≤ m := nx_le hC nl2
      have ng3 := nx_gt (C := C) n2m
      have hg2 := tkT_gt n2m (C := C)
      have hle2 := tkT_le hC nl2
      refine sX6_readOne_120 rfl ?_
      refine nX6_readOne_121 ?_
      refine sX6_readOne_122 rfl ?_
      refine jX6_readOne_123 (by assumption) (by assumption) ?_
      refine jX6_readOne_126 (by assumption) ?_
      rw [i3.2.1.1]
      refine sX6_readOne_129 rfl ?_
      refine jX6_readOne_130 (by assumption) (by assumption) ?_
      refine jX6_readOne_133 (by assumption) ?_
      rw [i3.2.1.2.2.1]
      refine sX6_readOne_136 rfl ?_
      refine jX6_readOne_137 (by assumption) (by assumption) ?_
      refine jX6_readOne_140 (by assumption) ?_
      rw [i3.2.1.1]
      refine nX6_readOne_143 (by omega) ?_
      refine jX6_readOne_144 (Nat.le_of_ble_eq_true rfl) (by assumption) ?_
      refine c_add2 hW (by omega) i3 (fun J4 j1 j2 j3 j4 => ?_)
      refine sX6_readOne_147 rfl ?_
      refine nX6_readOne_148 ?_
      refine sX6_readOne_150 rfl ?_
      refine nX6_readOne_151 ?_
      refine jX6_readOne_152 (Nat.le_of_ble_eq_true rfl) (by assumption) ?_
      refine c_add2 (s := 15) (dt := nI 0) hW (by omega) j4 (fun J5 k1 k2 k3 k4 => ?_)
      refine sX6_readOne_155 rfl ?_
      refine jX6_readOne_156 (by assumption) (by assumption) ?_
      refine jX6_readOne_159 (Nat.le_of_ble_eq_true rfl) (by assumption) ?_
      refine c_nx6 hQ' nl2 k4 (fun J6 l1 l2 l3 => ?_)
      refine sX6_readOne_162 ?_
      have E1 : en J6 w i (3, a, tlen C m a) := by
        rw [z] at e2
        exact en_c (fC_t (fC_t (fC_t i2 j2 (Nat.le_refl _)) k2 (by omega)) l2 (by omega)) (by omega) e2
      have E2 : en J6 w (i + 1) (3, nx C m (nx C m a), tlen C m (nx C m (nx C m a))) := by
        have := en_c (fC_t k2 l2 (by omega)) (by omega) j3
        exact this
      have E3 : en J6 w (i + 1 + 1) (15, nx C m a, 0) := en_c l2 (by omega) k3
      refine sX6_readOne_163 (Or.inr rfl) (kt J6 _ (i + 3) ?_ l3 (by omega) nl3 (by omega) (fun v2 => by omega) (fun _ => Or.inr ⟨rfl, by omega⟩) (Or.inr z))
      exact KT_s [(3, a, tlen C m a), (3, nx C m (nx C m a), tlen C m (nx C m (nx C m a))), (15, nx C m a, 0)] (fun L o e pm => pm_6 z y v pm) (fC_t (fC_t (fC_t (fC_t F i2 (by omega)) j2 (by omega)) k2 (by omega)) l2 (by omega)) ⟨E1, E2, E3, trivial⟩ k
    · refine sX6_readOne_118 ?_
      exact sX6_readOne_119 (Or.inl rfl) (kf _ (k.2 J3 _ ⟨[], pm_7 z y v⟩ (fC_t F i2 (by omega)) i3.1 i3.2.1 nl2 ⟨_, i3.2.2.1, by omega, by omega⟩))
  refine sX6_readOne_0 rfl ?_
  refine jX6_readOne_1 (by assumption) (by assumption) ?_
  refine jX6_readOne_4 (by assumption) ?_
  rw [p2.2.1]
  refine nX6_readOne_7 ?_
  refine nX6_readOne_8 (by omega) (by omega) (fun z => ?_) (fun z => ?_)
  · refine sX6_readOne_15 ?_
    refine sX6_readOne_16 ?_
    refine sX6_readOne_17 rfl ?_
    refine sX6_readOne_18 (fun y => absurd rfl y) (fun _ => ?_)
    refine sX6_readOne_21 rfl ?_
    refine jX6_readOne_22 (by assumption) (by assumption) ?_
    refine jX6_readOne_25 (by assumption) ?_
    rw [p2.2.1]
    refine nX6_readOne_28 ?_
    refine nX6_readOne_29 (by omega) (by omega) (fun y => go 0 _ (Or.inl ⟨rfl, y⟩) (fun z hz => by simp only [List.mem_cons, List.not_mem_nil, or_false] at hz; rcases hz with rfl | rfl | rfl <;> exact xlk_mem rfl)) (fun y => ?_)
    refine sX6_readOne_32 ?_
    exact sX6_readOne_33 (Or.inl rfl) (kf _ (k.2 J a ⟨[], pm_8 y z hk40⟩ (fC_r _ _ _) p1 p2 ham ⟨i, p3, by omega, by omega⟩))
  · refine sX6_readOne_11 ?_
    refine sX6_readOne_12 ?_
    refine sX6_readOne_16 ?_
    refine sX6_readOne_17 rfl ?_
    exact sX6_readOne_18 (fun _ => go 1 _ (Or.inr ⟨rfl, z⟩) (fun z hz => by simp only [List.mem_cons, List.not_mem_nil, or_false] at hz; rcases hz with rfl | rfl | rfl <;> exact xlk_mem rfl)) (fun y => absurd y (by decide))
theorem c_readPower {a i dp : Nat} {x : Lv} {ys : List Lv} {H : List (Nat × Nat)} {Q1 : Option Value → xH → Prop} (hQ : CQ h w) (ham : a ≤ m) (hi : 3 * i ≤ 4 * a + 1) (hp : PT J w C m a i H dp) (k : KT u h Q C m w i J 1 a x ys) (kf : ∀ J', Q (some (.int 0)) (xJ h J') → Q1 (some (.int 0)) (xJ h J')) (kt : ∀ J' a' i', KT u h Q C m w i' J' 2 a' x ys → PT J' w C m a' i' H dp → a' ≤ m → (a' = a ∧ i' = i ∨ i' = i + 1 ∧ a + 2 ≤ a') → Q1 (some (.int 1)) (xJ h J')) : ac g l mX6_readPower [.ref (w + 13), .ref (w + 2)] (xJ h J) Q1 := by
  refine ac_of (by decide) (Nat.le_of_ble_eq_true rfl) ?_
  have hQ' := hQ
  obtain ⟨hW, t13, ⟨q0, q1, q2⟩, t16, t17, hK⟩ := hQ
  have t14 := hK.1
  have tc := hW.2.2.2.2.1
  have hp' := hp
  obtain ⟨p1, p2, p3, p4, p5⟩ := hp
  have hC := p1.2.2.1
  have hm := p1.2.1
  have kb := (tkK_big C m a).1
  refine sX6_readPower_0 rfl ?_
  refine jX6_readPower_1 (by assumption) (by assumption) ?_
  refine jX6_readPower_4 (by assumption) ?_
  rw [p2.2.1]
  refine nX6_readPower_7 ?_
  refine nX6_readPower_9 (by omega) (by omega) (fun z => ?_) (fun z => ?_)
  · have ha : a < m := tkK_lt (C := C) (by omega)
    have ng := nx_gt (C := C) ha
    have nl : nx C m a ≤ m := nx_le hC ham
    -- at what is the power
    have rest : ∀ (t : Int32) (J2 : Nat → Nat → Int32) (lv0 : List (Nat × Value)), (t = if tkK C m (nx C m a) = 45 then 1 else 0) → fC w i J J2 → PT J2 w C m (pw C m a) i H dp → pw C m a ≤ m → a < pw C m a → (∀ z ∈ ([(0, .ref (w + 13)), (1, .ref (w + 2)), (2, .int (nI a)), (3, .int t)] : List (Nat × Value)), z ∈ lv0) → aw g l mX6_readPower 58 lv0 [] (xJ h J2) Q1 := by
      intro t J2 lv0 ht f2 g2 hpm hpa hlv
      refine aw_lv hlv ?_
      have bad : ¬ pg C m a → Q1 (some (.int 0)) (xJ h J2) := fun v => kf _ (k.2 J2 _ ⟨[], pm_10 z v⟩ f2 g2.1 g2.2.1 hpm ⟨_, g2.2.2.1, by omega, by omega⟩)
      have kb2 := (tkK_big C m (pw C m a)).1
      refine sX6_readPower_58 rfl ?_
      refine jX6_readPower_59 (by assumption) (by assumption) ?_
      refine jX6_readPower_62 (by assumption) ?_
      rw [g2.2.1.2.1]
      refine nX6_readPower_65 ?_
      refine nX6_readPower_66 (by omega) (by omega) (fun y => ?_) (fun y => ?_)
      · refine sX6_readPower_79 ?_
        exact sX6_readPower_80 (Or.inl rfl) (bad (fun v => y v.1))
      refine sX6_readPower_69 rfl ?_
      refine jX6_readPower_70 (by assumption) (by assumption) ?_
      refine jX6_readPower_73 (by assumption) ?_
      rw [g2.2.1.2.2.2 y]
      by_cases hw : nuW C m (pw C m a) = true
      · rw [if_pos hw]
        refine sX6_readPower_76 (fun _ => ?_) (fun v => absurd v (by decide))
        refine sX6_readPower_81 rfl ?_
        refine jX6_readPower_82 (by assumption) (by assumption) ?_
        refine nX6_readPower_85 ?_
        refine jX6_readPower_87 (Nat.le_of_ble_eq_true rfl) (by assumption) ?_
        refine c_numberUpTo hK g2.1 g2.2.1 y hw ?_
        refine sX6_readPower_90 ?_
        refine sX6_readPower_92 rfl ?_
        refine nX6_readPower_94 ?_
        refine nX6_readPower_96 (by omega) (by omega) (fun v => ?_) (fun v => ?_)
        · have en' : min (dv C 0 (pw C m a) (tkT C m (pw C m a) - pw C m a)) 100 = pn C m a := by unfold pn; omega
          have good : pg C m a := ⟨y, hw, by omega⟩
          rw [en']
          have pm' : pw C m a < m := tkK_lt (C := C) (by omega)
          have pl' : nx C m (pw C m a) ≤ m := nx_le hC hpm
          have pg' := nx_gt (C := C) pm'
          have last : ∀ (d : Int32) (lv1 : List (Nat × Value)), d = pv C m a → (∀ z ∈ ([(0, .ref (w + 13)), (1, .ref (w + 2)), (2, .int (nI a))] : List (Nat × Value)), z ∈ lv1) → aw g l mX6_readPower 117 lv1 [.int d, .int (nI a), .int (nI 17), .ref (w + 2)] (xJ h J2) Q1 := by
            intro d lv1 hd hlv1
            refine aw_lv hlv1 ?_
            refine jX6_readPower_117 (Nat.le_of_ble_eq_true rfl) (by assumption) ?_
            refine c_add2 (s := 17) (p := a) (dt := d) hW (by omega) g2 (fun J3 j1 j2 j3 j4 => ?_)
            refine sX6_readPower_120 rfl ?_
            refine jX6_readPower_121 (by assumption) (by assumption) ?_
            refine jX6_readPower_124 (Nat.le_of_ble_eq_true rfl) (by assumption) ?_
            refine c_nx6 hQ' hpm j4 (fun J4 k1 k2 k3 => ?_)
            refine sX6_readPower_127 ?_
            refine sX6_readPower_128 (Or.inr rfl) (kt J4 _ (i + 1) ?_ k3 pl' (Or.inr ⟨rfl, by omega⟩))
            rw [hd] at j3
            exact KT_s [(17, a, pv C m a)] (fun L o e pm => pm_9 z good pm) (fC_t (fC_t f2 j2 (Nat.le_refl _)) k2 (by omega)) ⟨en_c k2 (Nat.lt_succ_self i) j3, trivial⟩ k
          refine sX6_readPower_101 rfl ?_
          refine nX6_readPower_102 ?_
          refine sX6_readPower_104 rfl ?_
          refine sX6_readPower_105 rfl ?_
          unfold pv at last
          by_cases u : tkK C m (nx C m a) = 45
          · rw [if_pos u] at ht last
            subst ht
            refine sX6_readPower_106 (fun v => absurd v (by decide)) (fun _ => ?_)
            refine sX6_readPower_109 rfl ?_
            refine sX6_readPower_111 ?_
            refine sX6_readPower_112 ?_
            exact last _ _ rfl (fun z hz => by simp only [List.mem_cons, List.not_mem_nil, or_false] at hz; rcases hz with rfl | rfl | rfl <;> exact xlk_mem rfl)
          · rw [if_neg u] at ht last
            subst ht
            refine sX6_readPower_106 (fun _ => ?_) (fun v => absurd rfl v)
            refine sX6_readPower_115 rfl ?_
            exact last _ _ rfl (fun z hz => by simp only [List.mem_cons, List.not_mem_nil, or_false] at hz; rcases hz with rfl | rfl | rfl <;> exact xlk_mem rfl)
        · refine sX6_readPower_99 ?_
          exact sX6_readPower_100 (Or.inl rfl) (bad (fun u => by have := u.2.2; unfold pn at this; omega))
      · rw [if_neg hw]
        refine sX6_readPower_76 (fun v => absurd rfl v) (fun _ => ?_)
        refine sX6_readPower_79 ?_
        exact sX6_readPower_80 (Or.inl rfl) (bad (fun v => hw v.2.1))
    refine sX6_readPower_14 rfl ?_
    refine jX6_readPower_15 (by assumption) (by assumption) ?_
    refine jX6_readPower_18 (by assumption) ?_
    rw [p2.1]
    refine sX6_readPower_21 ?_
    refine sX6_readPower_22 rfl ?_
    refine jX6_readPower_23 (by assumption) (by assumption) ?_
    refine jX6_readPower_26 (Nat.le_of_ble_eq_true rfl) (by assumption) ?_
    refine c_nx6 hQ' ham hp' (fun J1 i1 i2 i3 => ?_)
    refine sX6_readPower_29 rfl ?_
    refine jX6_readPower_30 (by assumption) (by assumption) ?_
    refine jX6_readPower_33 (by assumption) ?_
    rw [i3.2.1.2.1]
    have kb1 := (tkK_big C m (nx C m a)).1
    refine nX6_readPower_36 ?_
    refine nX6_readPower_38 (by omega) (by omega) (fun y => ?_) (fun y => ?_)
    · have ep : pw C m a = nx C m a := by unfold pw; rw [if_neg y]
      refine sX6_readPower_45 ?_
      refine sX6_readPower_46 ?_
      refine sX6_readPower_47 rfl ?_
      refine sX6_readPower_48 (fun _ => ?_) (fun v => absurd rfl v)
      exact rest 0 J1 _ (by rw [if_neg y]) i2 (ep ▸ i3) (by omega) (by omega) (fun z hz => by simp only [List.mem_cons, List.not_mem_nil, or_false] at hz; rcases hz with rfl | rfl | rfl | rfl <;> exact xlk_mem rfl)
    · have ep : pw C m a = nx C m (nx C m a) := by unfold pw; rw [if_pos y]
      have n1m : nx C m a < m := tkK_lt (C := C) (by omega)
      have nl2 : nx C m (nx C m a) ≤ m := nx_le hC nl
      have ng2 := nx_gt (C := C) n1m
      refine sX6_readPower_41 ?_
      refine sX6_readPower_42 ?_
      refine sX6_readPower_46 ?_
      refine sX6_readPower_47 rfl ?_
      refine sX6_readPower_48 (fun v => absurd v (by decide)) (fun _ => ?_)
      refine sX6_readPower_51 rfl ?_
      refine jX6_readPower_52 (by assumption) (by assumption) ?_
      refine jX6_readPower_55 (Nat.le_of_ble_eq_true rfl) (by assumption) ?_
      refine c_nx6 hQ' nl i3 (fun J2 j1 j2 j3 => ?_)
      exact rest 1 J2 _ (by rw [if_pos y]) (fC_t i2 j2 (Nat.le_refl _)) (ep ▸ j3) (by omega) (by omega) (fun z hz => by simp only [List.mem_cons, List.not_mem_nil, or_false] at hz; rcases hz with rfl | rfl | rfl | rfl <;> exact xlk_mem rfl)
  · refine sX6_readPower_12 ?_
    exact sX6_readPower_13 (Or.inr rfl) (kt J a i (KT_0 (fun L o e pm => pm_11 z pm) (fC_r _ _ _) k) hp' ham (Or.inl ⟨rfl, rfl⟩))
end CExpr
