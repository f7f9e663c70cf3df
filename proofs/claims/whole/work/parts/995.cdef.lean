/-! ===== the class: readFile, define, forget ===== -/
section CFile
variable {g : xG} {l : Launch} {h : xH} {J : Nat → Nat → Int32} {Q : Option Value → xH → Prop} {x c : Nat} {D : Nat → Df} {T tp : Nat → Nat}
theorem c_readFile {fr to : Nat} (hM : CM h x) (hQ : CQ (fxT h x) (x + 2)) (hD : DB c D) (hB : WB J (x + 2) c D T) (hft : fr ≤ to) (hto : to ≤ 10240) (h40 : to ≤ fr + 4000) (hte : eO (fte D) c ≤ fr)
    (k : ∀ J' n res c1 D1 f, RF T fr to n fr c D res c1 D1 → fL x J J' → WB J' (x + 2) c1 D1 T → DB c1 D1 → f < 100 → (f = 0 → res = none) → (f ≠ 0 → ∃ p, res = some (f, p) ∧ J' x 9 = nI p) → eO (fte D1) c1 ≤ to → Q (some (.int (nI f))) (xJ (fxT h x) J')) : ac g l mX10_readFile [.ref x, .int (nI fr), .int (nI to)] (xJ h J) Q := by
  refine ac_of (by decide) (Nat.le_of_ble_eq_true rfl) ?_
  have done : ∀ (J1 : Nat → Nat → Int32) (f : Nat) (lv0 : List (Nat × Value)), Q (some (.int (nI f))) (xJ (fxT h x) J1) → (∀ z ∈ ([(3, .int (nI f))] : List (Nat × Value)), z ∈ lv0) → aw g l mX10_readFile 73 lv0 [] (xJ (fxT h x) J1) Q := by
    intro J1 f lv0 q hlv
    refine aw_lv hlv ?_
    refine sX10_readFile_73 rfl ?_
    exact sX10_readFile_74 q
  have loop : ∀ (μ s ln c1 : Nat) (D1 : Nat → Df) (hh : xH) (J1 : Nat → Nat → Int32) (lv0 : List (Nat × Value)), to + 1 - s ≤ μ → fr + ln ≤ s → s ≤ to + 1 → (hh = fxT h x ∨ hh = h ∧ s ≤ to) → fL x J J1 → WB J1 (x + 2) c1 D1 T → DB c1 D1 → eO (fte D1) c1 ≤ s → eO (fte D1) c1 ≤ to → (∀ n res c2 D2, RF T fr to n s c1 D1 res c2 D2 → ∃ n', RF T fr to n' fr c D res c2 D2) → (∀ z ∈ ([(0, .ref x), (1, .int (nI fr)), (2, .int (nI to)), (3, .int (nI 0)), (4, .int (nI s)), (5, .int (nI ln))] : List (Nat × Value)), z ∈ lv0) → aw g l mX10_readFile 8 lv0 [] (xJ hh J1) Q := by
    intro μ
    induction μ with
    | zero =>
      intro s ln c1 D1 hh J1 lv0 hμ hln hs hhh f1 B1 D1' te1 te2 rf hlv
      refine aw_lv hlv ?_
      have e : hh = fxT h x := by
        rcases hhh with e | ⟨-, e⟩
        · exact e
        · omega
      subst e
      obtain ⟨n', rf'⟩ := rf 0 none c1 D1 ⟨by omega, rfl, rfl, rfl⟩
      have q := k J1 n' none c1 D1 0 rf' f1 B1 D1' (by decide) (fun _ => rfl) (fun y => absurd rfl y) te2
      refine sX10_readFile_8 rfl ?_
      refine nX10_readFile_10 ?_
      refine nX10_readFile_13 (by omega) (by omega) (fun _ => done J1 0 _ q (fun z hz => by simp only [List.mem_cons, List.not_mem_nil, or_false] at hz; rcases hz with rfl <;> exact xlk_mem rfl)) (fun _ => ?_)
      refine sX10_readFile_16 rfl ?_
      refine sX10_readFile_18 rfl ?_
      exact nX10_readFile_19 (by omega) (by omega) (fun _ => done J1 0 _ q (fun z hz => by simp only [List.mem_cons, List.not_mem_nil, or_false] at hz; rcases hz with rfl <;> exact xlk_mem rfl)) (fun y => absurd y (by omega))
    | succ μ ih =>
      intro s ln c1 D1 hh J1 lv0 hμ hln hs hhh f1 B1 D1' te1 te2 rf hlv
      refine aw_lv hlv ?_
      by_cases hst : s ≤ to
      · have hM' : CM hh x := by
          rcases hhh with e | ⟨e, -⟩ <;> rw [e]
          · exact CM_f hM
          · exact hM
        have hff : fxT hh x = fxT h x := by
          rcases hhh with e | ⟨e, -⟩ <;> rw [e]
          exact fxT_2
        have hQ' : CQ (fxT hh x) (x + 2) := by rw [hff]; exact hQ
        have hW' : CW hh (x + 2) := CW_f hQ'.1
        obtain ⟨t1, ⟨p1, p3, -⟩, -⟩ := id hM'
        have tw := hW'.1
        obtain ⟨u1, u2⟩ := lnM_le (T := T) hst
        have u3 := lnM_ge T s to
        have u4 := utl_ge T s to 10
        refine sX10_readFile_8 rfl ?_
        refine nX10_readFile_10 ?_
        refine nX10_readFile_13 (by omega) (by omega) (fun y => absurd y (by omega)) (fun _ => ?_)
        refine sX10_readFile_16 rfl ?_
        refine sX10_readFile_18 rfl ?_
        refine nX10_readFile_19 (by omega) (by omega) (fun y => absurd y (by omega)) (fun _ => ?_)
        refine sX10_readFile_22 rfl ?_
        refine nX10_readFile_23 (by decide) (fun y => absurd rfl y) (fun _ => ?_)
        refine sX10_readFile_26 rfl ?_
        refine jX10_readFile_27 (by assumption) (by assumption) ?_
        refine sX10_readFile_30 rfl ?_
        refine sX10_readFile_32 rfl ?_
        refine nX10_readFile_33 ?_
        refine jX10_readFile_35 (Nat.le_of_ble_eq_true rfl) (by assumption) ?_
        refine c_textUntil hW' B1.1 hto (by decide) (by omega) ?_
        refine sX10_readFile_38 ?_
        refine sX10_readFile_40 rfl ?_
        refine sX10_readFile_41 rfl ?_
        refine sX10_readFile_43 rfl ?_
        refine jX10_readFile_44 (by assumption) (by assumption) ?_
        refine sX10_readFile_47 rfl ?_
        refine sX10_readFile_49 rfl ?_
        refine nX10_readFile_51 ?_
        refine jX10_readFile_53 (Nat.le_of_ble_eq_true rfl) (by assumption) ?_
        refine c_textUntil hW' B1.1 (by omega) (by decide) (by omega) ?_
        refine sX10_readFile_56 rfl ?_
        refine jX10_readFile_57 (Nat.le_of_ble_eq_true rfl) (by assumption) ?_
        refine c_readLine (m := lnM T s to) hM' hQ' D1' B1 u3 (by omega) (by omega) te1 (fun J2 f p lb f0 f100 f2 B2 e9 => ?_) (fun J2 c2 D2 lo f2 B2 D2' te3 => ?_)
        · rw [hff]
          obtain ⟨n', rf'⟩ := rf 1 (some (f, p)) c1 D1 ⟨hst, Or.inl ⟨f, p, lb, rfl, rfl, rfl⟩⟩
          have q := k J2 n' (some (f, p)) c1 D1 f rf' (fL_t f1 f2) B2 D1' f100 (fun y => absurd y f0) (fun _ => ⟨p, rfl, e9⟩) te2
          refine sX10_readFile_60 ?_
          refine sX10_readFile_61 rfl ?_
          refine nX10_readFile_63 ?_
          refine nX10_readFile_64 ?_
          refine sX10_readFile_65 ?_
          refine nX10_readFile_67 rfl ?_
          refine sX10_readFile_70 ?_
          refine sX10_readFile_8 rfl ?_
          refine nX10_readFile_10 ?_
          refine nX10_readFile_13 (by omega) (by omega) (fun _ => done J2 f _ q (fun z hz => by simp only [List.mem_cons, List.not_mem_nil, or_false] at hz; rcases hz with rfl <;> exact xlk_mem rfl)) (fun _ => ?_)
          refine sX10_readFile_16 rfl ?_
          refine sX10_readFile_18 rfl ?_
          refine nX10_readFile_19 (by omega) (by omega) (fun _ => done J2 f _ q (fun z hz => by simp only [List.mem_cons, List.not_mem_nil, or_false] at hz; rcases hz with rfl <;> exact xlk_mem rfl)) (fun _ => ?_)
          refine sX10_readFile_22 rfl ?_
          exact nX10_readFile_23 (by omega) (fun _ => done J2 f _ q (fun z hz => by simp only [List.mem_cons, List.not_mem_nil, or_false] at hz; rcases hz with rfl <;> exact xlk_mem rfl)) (fun y => absurd y f0)
        · rw [hff]
          refine sX10_readFile_60 ?_
          refine sX10_readFile_61 rfl ?_
          refine nX10_readFile_63 ?_
          refine nX10_readFile_64 ?_
          refine sX10_readFile_65 ?_
          refine nX10_readFile_67 rfl ?_
          refine sX10_readFile_70 ?_
          refine ih (utl T s to 10 + 1) (ln + 1) c2 D2 _ J2 _ (by omega) (by omega) (by omega) (Or.inl rfl) (fL_t f1 f2) B2 D2' (by omega) (by omega) (fun n res c3 D3 r3 => ?_) (fun z hz => by simp only [List.mem_cons, List.not_mem_nil, or_false] at hz; rcases hz with rfl | rfl | rfl | rfl | rfl | rfl <;> exact xlk_mem rfl)
          exact rf (n + 1) res c3 D3 ⟨hst, Or.inr ⟨c2, D2, lo, r3⟩⟩
      · have e : hh = fxT h x := by
          rcases hhh with e | ⟨-, e⟩
          · exact e
          · omega
        subst e
        obtain ⟨n', rf'⟩ := rf 0 none c1 D1 ⟨by omega, rfl, rfl, rfl⟩
        have q := k J1 n' none c1 D1 0 rf' f1 B1 D1' (by decide) (fun _ => rfl) (fun y => absurd rfl y) te2
        refine sX10_readFile_8 rfl ?_
        refine nX10_readFile_10 ?_
        refine nX10_readFile_13 (by omega) (by omega) (fun _ => done J1 0 _ q (fun z hz => by simp only [List.mem_cons, List.not_mem_nil, or_false] at hz; rcases hz with rfl <;> exact xlk_mem rfl)) (fun _ => ?_)
        refine sX10_readFile_16 rfl ?_
        refine sX10_readFile_18 rfl ?_
        exact nX10_readFile_19 (by omega) (by omega) (fun _ => done J1 0 _ q (fun z hz => by simp only [List.mem_cons, List.not_mem_nil, or_false] at hz; rcases hz with rfl <;> exact xlk_mem rfl)) (fun y => absurd y (by omega))
  refine nX10_readFile_0 ?_
  refine sX10_readFile_1 ?_
  refine sX10_readFile_2 rfl ?_
  refine sX10_readFile_3 ?_
  refine nX10_readFile_5 ?_
  refine sX10_readFile_6 ?_
  exact loop (to + 1) fr 0 c D h J _ (by omega) (by omega) (by omega) (Or.inr ⟨rfl, hft⟩) (fL_r x J) hB hD hte (by omega) (fun n res c2 D2 r => ⟨n, r⟩) (fun z hz => by simp only [List.mem_cons, List.not_mem_nil, or_false] at hz; rcases hz with rfl | rfl | rfl | rfl | rfl | rfl <;> exact xlk_mem rfl)
end CFile
/-! the class's object as a whole -/
def CE (h : xH) (d : Nat) : Prop := (xT h d).1 = 3 ∧ (xP h d 0 = some (d + 1) ∧ xP h d 1 = some (d + 3) ∧ xP h d 2 = some (d + 5)) ∧ CN h (d + 1) 128 ∧ CN h (d + 3) 128 ∧ xT h (d + 5) = (100, 162)
def lowE (x : Nat) (h h' : xH) : Prop := ∀ a, a < x + 32 → xT h' a = xT h a ∧ (a ≠ x + 2 + 14 → xP h' a = xP h a)
theorem low_CM {x : Nat} {h h' : xH} (hl : lowE x h h') (hM : CM h x) : CM h' x := by
  obtain ⟨a, b, c⟩ := hM
  exact ⟨by rw [(hl x (by omega)).1]; exact a, by rw [(hl x (by omega)).2 (by omega)]; exact b, by rw [(hl _ (by omega)).1]; exact c⟩
theorem low_CN {x a c : Nat} {h h' : xH} (hl : lowE x h h') (ha : a + 2 ≤ x + 32) (hn : a ≠ x + 2 + 14) (hN : CN h a c) : CN h' a c := by
  obtain ⟨h1, h2, h3⟩ := hN
  exact ⟨by rw [(hl a (by omega)).1]; exact h1, by rw [(hl a (by omega)).2 hn]; exact h2, by rw [(hl _ (by omega)).1]; exact h3⟩
theorem low_CV {x : Nat} {h h' : xH} (hl : lowE x h h') (hV : CV h (x + 26)) : CV h' (x + 26) := by
  obtain ⟨h1, h2, h3, h4, h5⟩ := hV
  exact ⟨by rw [(hl _ (by omega)).1]; exact h1, by rw [(hl (x + 26) (by omega)).2 (by omega)]; exact h2, low_CN hl (by omega) (by omega) h3, low_CN hl (by omega) (by omega) h4, by rw [(hl _ (by omega)).1]; exact h5⟩
theorem low_CE {x : Nat} {h h' : xH} (hl : lowE x h h') (hV : CE h (x + 20)) : CE h' (x + 20) := by
  obtain ⟨h1, h2, h3, h4, h5⟩ := hV
  exact ⟨by rw [(hl _ (by omega)).1]; exact h1, by rw [(hl (x + 20) (by omega)).2 (by omega)]; exact h2, low_CN hl (by omega) (by omega) h3, low_CN hl (by omega) (by omega) h4, by rw [(hl _ (by omega)).1]; exact h5⟩
theorem low_f {x : Nat} {h : xH} : lowE x h (fxT h x) := fun a _ => ⟨rfl, fun hn => fxT_P hn⟩
theorem low_t {x : Nat} {h h1 h2 : xH} (a : lowE x h h1) (b : lowE x h1 h2) : lowE x h h2 := fun q hq => ⟨(b q hq).1.trans (a q hq).1, fun hn => ((b q hq).2 hn).trans ((a q hq).2 hn)⟩
/-- what a class's call leaves of the heap as it was -/
def HF (x : Nat) (h h' : xH) : Prop := h.1 ≤ h'.1 ∧ (∀ a, a < h.1 → xT h' a = xT h a) ∧ ∀ a, a < h.1 → a ≠ x + 2 + 14 → a ≠ x + 32 → a ≠ x + 32 + 1209 → xP h' a = xP h a
theorem HF_r (x : Nat) (h : xH) : HF x h h := ⟨Nat.le_refl _, fun _ _ => rfl, fun _ _ _ _ _ => rfl⟩
theorem HF_t {x : Nat} {h h1 h2 : xH} (a : HF x h h1) (b : HF x h1 h2) : HF x h h2 := by
  have := a.1
  exact ⟨Nat.le_trans a.1 b.1, fun q hq => (b.2.1 q (by omega)).trans (a.2.1 q hq), fun q hq h1 h2 h3 => (b.2.2 q (by omega) h1 h2 h3).trans (a.2.2 q hq h1 h2 h3)⟩
theorem HF_f (x : Nat) (h : xH) : HF x h (fxT h x) := ⟨Nat.le_refl _, fun _ _ => rfl, fun _ _ hn _ _ => fxT_P hn⟩
theorem HF_Z {x : Nat} {h h' : xH} (z : hZ (x + 32) h h') : HF x h h' := ⟨z.1, z.2.1, fun a h1 _ h2 h3 => z.2.2 a h1 h2 h3⟩
theorem HF_X {x : Nat} {h h' : xH} (z : hX (x + 32) h h') : HF x h h' := HF_Z (hZ_x z)
theorem HF_low {x : Nat} {h h' : xH} (f : HF x h h') (hx : x + 32 ≤ h.1) : lowE x h h' := fun a ha => ⟨f.2.1 a (by omega), fun hn => f.2.2 a (by omega) hn (by omega) (by omega)⟩
/-- rows that no class's call changes -/
def JF (x H : Nat) (J J' : Nat → Nat → Int32) : Prop := ∀ r, r < x ∨ x + 1258 ≤ r ∧ r < H → J' r = J r
theorem JF_t {x H : Nat} {J J1 J2 : Nat → Nat → Int32} (a : JF x H J J1) (b : JF x H J1 J2) : JF x H J J2 := fun r hr => (b r hr).trans (a r hr)
theorem JF_L {x H : Nat} {J J' : Nat → Nat → Int32} (f : fL x J J') : JF x H J J' := fun r hr => f.1 r (by omega) (by omega)
def CS (g : xG) (h : xH) (x L L' H : Nat) : Prop := CM h x ∧ UC g (fxT h x) (x + 2) (x + 32) L L' H ∧ CV h (x + 26) ∧ CE h (x + 20)
def CI (g : xG) (h : xH) (J : Nat → Nat → Int32) (x L L' H B c : Nat) (D : Nat → Df) (T : Nat → Nat) (E : Nat → Option (Nat × Vl)) (ts : Nat) (tp : Nat → Nat) (V : Vl) (fl gv : Nat) : Prop :=
  CS g h x L L' H ∧ (0 < c → xP h (x + 2 + 14) 0 = some (x + 2 + 1)) ∧ (J x 0 = nI B ∧ J (x + 32 + 1213) 0 = nI B ∧ 16 ≤ B ∧ B ≤ 512) ∧ (∀ i, i < 10 → J g.2.2.2 i = nI (10 ^ i)) ∧ (J x 2 = nI ts ∧ ts ≤ 4000 ∧ ∀ i, i < ts → J (x + 1) i = sb (tp i) ∧ tp i < 256) ∧ DB c D ∧ WB J (x + 2) c D T ∧ LE J L E c ∧ (VJ J (x + 26) V ∧ vWf V) ∧ J x 8 = nI fl ∧ J x 10 = nI gv
theorem CS_x {g : xG} {h : xH} {x L L' H : Nat} (hS : CS g h x L L' H) : g.2.2.2 < x ∧ x + 1258 ≤ H ∧ H ≤ h.1 ∧ CW h (x + 2) ∧ CQ (fxT h x) (x + 2) ∧ CR (fxT h x) (x + 32) L L' ∧ (L = x + 32 + 1 ∧ L' = x + 32 + 605 ∨ L = x + 32 + 605 ∧ L' = x + 32 + 1) := by
  obtain ⟨hM, hU, -, -⟩ := hS
  obtain ⟨u1, u2, u3, u4, u5, u6, u7⟩ := hU
  have u7' : xT h g.2.2.2 = (104, 10) := u7
  refine ⟨?_, u3.2.1, u3.2.2.1, CW_f u1.1, u1, u2, u2.2.2.2.2.2.2⟩
  have n1 : g.2.2.2 ≠ x := fun e => by have := hM.1; rw [← e, u7'] at this; exact absurd this (by decide)
  have n2 : g.2.2.2 ≠ x + 1 := fun e => by have := hM.2.2; rw [← e, u7'] at this; exact absurd (congrArg Prod.fst this) (by decide)
  omega
theorem LE_c {J J' : Nat → Nat → Int32} {L c : Nat} {E : Nat → Option (Nat × Vl)} (hc : c ≤ 100) (o : ∀ r, L + 2 ≤ r → r < L + 604 → J' r = J r) (h : LE J L E c) : LE J' L E c := fun k hk => by
  rw [o (L + 3) (by omega) (by omega), o (L + 2) (by omega) (by omega)]
  refine ⟨(h k hk).1, fun r er => ⟨((h k hk).2 r er).1, ?_⟩⟩
  rcases ((h k hk).2 r er).2 with d | ⟨d1, d2, d3⟩
  · exact Or.inl d
  · exact Or.inr ⟨d1, d2, fun y => ⟨VJ_c (fun q q1 q2 => o q (by omega) (by omega)) (d3 y).1, (d3 y).2⟩⟩
/-- what the DEFINITIONS come to, in c of them -/
noncomputable def dM (c : Nat) (D : Nat → Df) (k : Nat) : Nat → Nat → Option Nat × Option Nat := mng (fso D) (fln D) (fnm D) c (fCk D k)
def fn (B c : Nat) (D : Nat → Df) (k : Nat) : Prop := fin B c (fso D) (bvO (fbn D)) (fLk D) (fCk D) (fmk D) (dM c D) k
def kn (B c : Nat) (D : Nat → Df) (k : Nat) (r : Nat × Vl) : Prop := ∃ f, dn B c (fso D) (bvO (fbn D)) (fLk D) (fCk D) (fmk D) (dM c D) f k = some r
def KN (B c : Nat) (D : Nat → Df) (E : Nat → Option (Nat × Vl)) : Prop := ∀ k, k < c → ∃ r, E k = some r ∧ r.1 ≠ 4 ∧ kn B c D k r
section CDef
variable {g : xG} {l : Launch} {h : xH} {J : Nat → Nat → Int32} {Q : Option Value → xH → Prop} {x L L' H B c ts fl gv : Nat} {D : Nat → Df} {T tp : Nat → Nat} {E : Nat → Option (Nat × Vl)} {V : Vl}
theorem c_define10 (hI : CI g h J x L L' H B c D T E ts tp V fl gv) (hroom : eO (fte D) c + ts ≤ 10240)
    (k1 : ∀ h' J' n f p c1 D1, RF (tT T tp (eO (fte D) c) ts) (eO (fte D) c) (eO (fte D) c + ts) n (eO (fte D) c) c D (some (f, p)) c1 D1 → DB c1 D1 → HF x h h' → JF x H J J' → f < 100 → CI g h' J' x L L' H B c D (tT T tp (eO (fte D) c) ts) E 0 tp V f gv → Q (some (.int (-10 - nI p))) (xJ h' J'))
    (k2 : ∀ h' J' n c1 D1 j, RF (tT T tp (eO (fte D) c) ts) (eO (fte D) c) (eO (fte D) c + ts) n (eO (fte D) c) c D none c1 D1 → DB c1 D1 → c < c1 → j < c1 → ¬ fn B c1 D1 j → (∀ i, i < j → fn B c1 D1 i) → HF x h h' → JF x H J J' → CI g h' J' x L L' H B c D (tT T tp (eO (fte D) c) ts) E 0 tp V 4 gv → Q (some (.int (-10 - nI j))) (xJ h' J'))
    (k3 : ∀ h' J' n c1 D1 E', RF (tT T tp (eO (fte D) c) ts) (eO (fte D) c) (eO (fte D) c + ts) n (eO (fte D) c) c D none c1 D1 → c < c1 → KN B c1 D1 E' → HF x h h' → JF x H J J' → eO (fte D1) c1 ≤ eO (fte D) c + ts → CI g h' J' x L' L H B c1 D1 (tT T tp (eO (fte D) c) ts) E' 0 tp V 0 gv → Q (some (.int (nI (c1 - c)))) (xJ h' J'))
    (k4 : ∀ h' J' n D1, RF (tT T tp (eO (fte D) c) ts) (eO (fte D) c) (eO (fte D) c + ts) n (eO (fte D) c) c D none c D1 → HF x h h' → JF x H J J' → CI g h' J' x L L' H B c D (tT T tp (eO (fte D) c) ts) E 0 tp V 0 gv → Q (some (.int (nI 0))) (xJ h' J')) : ac g l mX10_define [.ref x] (xJ h J) Q := by
  refine ac_of (by decide) (Nat.le_of_ble_eq_true rfl) ?_
  obtain ⟨hS, hptr, ⟨b0, b1, B16, B512⟩, hten, ⟨e2, ts4, htp⟩, hD, hB, hE, ⟨hV, wV⟩, e8, e10⟩ := hI
  obtain ⟨gx, hxH, hHh, hW, hQ, hR, lay⟩ := CS_x hS
  obtain ⟨hM, hU, hCV, hCE⟩ := id hS
  obtain ⟨t1, ⟨p1, p3, -⟩, -⟩ := id hM
  have tw := hW.1
  have hc := hD.1
  generalize hfr : eO (fte D) c = fr at *
  generalize hTT : tT T tp fr ts = TT at *
  have hto : fr ≤ fr + ts := Nat.le_add_right _ _
  have hTeq : ∀ q, q < fr → TT q = T q := fun q hq => by rw [← hTT]; unfold tT; rw [if_neg (by omega)]
  refine sX10_define_0 rfl ?_
  refine jX10_define_1 (by assumption) (by assumption) ?_
  refine jX10_define_4 (Nat.le_of_ble_eq_true rfl) (by assumption) ?_
  refine c_textEnd (e := fr) hW hB.2.1 hc (by rw [← hfr]; exact (WB_eO hB).2) ?_
  refine sX10_define_7 ?_
  refine sX10_define_8 rfl ?_
  refine sX10_define_9 rfl ?_
  refine jX10_define_10 (Nat.le_of_ble_eq_true rfl) (by assumption) ?_
  refine c_takeTape (ts := ts) (tp := tp) hM hW e2 ts4 hroom hB.1 htp (fun J1 o1 o2 e21 wt1 => ?_)
  rw [hTT] at wt1
  have B1 : WB J1 (x + 2) c D TT := WB_T hD (fun r a1 a2 a3 => o1 r (by omega) a3) wt1 (by rw [hfr]; exact hTeq) hB
  refine sX10_define_13 ?_
  refine sX10_define_14 rfl ?_
  refine jX10_define_15 (by assumption) (by assumption) ?_
  refine jX10_define_18 (by assumption) ?_
  rw [B1.2.1]
  refine sX10_define_21 ?_
  refine sX10_define_22 rfl ?_
  refine sX10_define_23 rfl ?_
  refine sX10_define_24 rfl ?_
  refine sX10_define_25 rfl ?_
  refine jX10_define_26 (Nat.le_of_ble_eq_true rfl) (by assumption) ?_
  refine c_readFile (fr := fr) (to := fr + ts) hM hQ hD B1 hto (by omega) (by omega) (by omega) (fun J2 n res c1 D1 f rf f2 B2 D2 hf hf0 hf1 hte2 => ?_)
  obtain ⟨pre1, pre2⟩ := RF_pre rf
  generalize hh0 : fxT h x = h0 at *
  have hM0 : CM h0 x := by rw [← hh0]; exact CM_f hM
  have low0 : lowE x h h0 := by rw [← hh0]; exact low_f
  have hff0 : fxT h0 x = h0 := by rw [← hh0]; exact fxT_2
  have ptr0 : xP h0 (x + 2 + 14) 0 = some (x + 2 + 1) := by rw [← hh0]; exact xs_s
  have hfT : HF x h h0 := by rw [← hh0]; exact HF_f x h
  have eh1 : h0.1 = h.1 := by rw [← hh0]; rfl
  obtain ⟨z1, ⟨y1, y3, y4, y5, y6, y7⟩, -⟩ := id hM0
  have hW0 := hQ.1
  have tw0 := hW0.1
  generalize hJ3 : xup2 J2 x 8 (nI f) = J3
  have o3 : ∀ r, r ≠ x → J3 r = J2 r := fun r hr => by rw [← hJ3, xup2_r hr]
  have e38 : J3 x 8 = nI f := by rw [← hJ3, xup2_s]
  have B3 : WB J3 (x + 2) c1 D1 TT := WB_x (fun r a1 a2 a3 => o3 r (by omega)) (by rw [o3 _ (by omega)]) (by rw [o3 _ (by omega)]) B2
  have jf3 : JF x H J J3 := fun r hr => by rw [o3 r (by omega), f2.1 r (by omega) (by omega), o1 r (by omega) (by omega)]
  have x3 : ∀ j, j ≠ 2 → j ≠ 8 → j ≠ 9 → J3 x j = J x j := fun j a1 a2 a3 => by rw [← hJ3, xup2_n a2, f2.2 j a3, o2 j a1]
  have x32 : J3 x 2 = nI 0 := by rw [← hJ3, xup2_n (by decide), f2.2 2 (by decide)]; exact e21
  have hi3 : ∀ r, x + 20 ≤ r → J3 r = J r := fun r hr => by rw [o3 r (by omega), f2.1 r (by omega) (by omega), o1 r (by omega) (by omega)]
  -- the new state, with the old DEFINITIONS
  have back : ∀ (h1 : xH) (J4 : Nat → Nat → Int32) (f' : Nat), HF x h0 h1 → UC g h1 (x + 2) (x + 32) L L' H → (∀ r, r < H → r ≠ x → r ≠ x + 2 → r ≠ x + 32 → r < L' ∨ L' + 604 ≤ r → r < x + 32 + 1210 ∨ x + 32 + 1226 ≤ r → J4 r = J3 r) → (∀ j, j ≠ 8 → j ≠ 9 → J4 x j = J3 x j) → J4 (x + 32 + 1213) 0 = J3 (x + 32 + 1213) 0 → J4 x 8 = nI f' → WB J4 (x + 2) c D TT → HF x h h1 ∧ JF x H J J4 ∧ CI g h1 J4 x L L' H B c D TT E 0 tp V f' gv := by
    intro h1 J4 f' hf1 u1 o4 x4 b4 e48 B4
    have fx : xP h1 (x + 2 + 14) 0 = some (x + 2 + 1) := u1.1.2.2.2.2.2.2.1
    have efx : fxT h1 x = h1 := fxT_id fx
    have low1 := low_t low0 (HF_low hf1 (by omega))
    refine ⟨HF_t hfT hf1, fun r hr => ?_, ⟨low_CM low1 hM, by rw [efx]; exact u1, low_CV low1 hCV, low_CE low1 hCE⟩, fun _ => fx, ⟨by rw [x4 0 (by decide) (by decide), x3 0 (by decide) (by decide) (by decide)]; exact b0, by rw [b4, hi3 _ (by omega)]; exact b1, B16, B512⟩, fun i hi => ?_, ⟨by rw [x4 2 (by decide) (by decide)]; exact x32, by decide, fun i hi => by omega⟩, hD, B4, LE_c hc (fun r a1 a2 => by rw [o4 r (by omega) (by omega) (by omega) (by omega) (by omega) (by omega), hi3 r (by omega)]) hE, ⟨VJ_c (fun r a1 a2 => by rw [o4 r (by omega) (by omega) (by omega) (by omega) (by omega) (by omega), hi3 r (by omega)]) hV, wV⟩, e48, by rw [x4 10 (by decide) (by decide), x3 10 (by decide) (by decide) (by decide)]; exact e10⟩
    · rw [o4 r (by omega) (by omega) (by omega) (by omega) (by omega) (by omega)]; exact jf3 r hr
    · rw [o4 _ (by omega) (by omega) (by omega) (by omega) (by omega) (by omega), jf3 _ (Or.inl gx)]; exact hten i hi
  -- a FAULT
  have fail : ∀ (h1 : xH) (J4 : Nat → Nat → Int32) (f' p : Nat) (lv0 : List (Nat × Value)), f' ≠ 0 → f' < 100 → CM h1 x → CW h1 (x + 2) → WB J4 (x + 2) c1 D1 TT → J4 x 8 = nI f' → J4 x 9 = nI p → (∀ J5, (∀ r, r ≠ x + 2 → J5 r = J4 r) → WB J5 (x + 2) c D TT → Q (some (.int (-10 - nI p))) (xJ h1 J5)) → (∀ z ∈ ([(0, .ref x), (3, .int (nI c))] : List (Nat × Value)), z ∈ lv0) → aw g l mX10_define 80 lv0 [] (xJ h1 J4) Q := by
    intro h1 J4 f' p lv0 n0 n1 m1 w1 B4 q8 q9 kk hlv
    refine aw_lv hlv ?_
    obtain ⟨v1, ⟨-, v3, -⟩, -⟩ := id m1
    have v2 := w1.1
    refine sX10_define_80 rfl ?_
    refine jX10_define_81 (by assumption) ?_
    rw [q8]
    refine nX10_define_84 (by omega) (fun y => absurd y n0) (fun _ => ?_)
    refine sX10_define_87 rfl ?_
    refine jX10_define_88 (by assumption) (by assumption) ?_
    refine sX10_define_91 rfl ?_
    refine jX10_define_92 (Nat.le_of_ble_eq_true rfl) (by assumption) ?_
    refine c_resize (so := fso D) w1 hc (fun i hi => ⟨by rw [← (f_c (pre2 i hi)).1]; exact (B4.2.2.2 i (by omega)).1, (hD.2.1 i hi).1⟩) (fun J5 r1 r2 r3 r4 => ?_)
    refine sX10_define_95 ?_
    refine sX10_define_97 rfl ?_
    refine jX10_define_98 (by assumption) ?_
    rw [r1 x (by omega), q9]
    refine sX10_define_101 ?_
    refine sX10_define_102 (kk J5 r1 (WB_take pre1 (fun k hk => (pre2 k hk).symm) r1 r3 ?_ B4))
    rw [nb_c (c := c) (so := fso D) (fun k hk => (f_c (pre2 k hk)).1) (Nat.le_refl _)]; exact r4
  -- none
  have fine : ∀ (h1 : xH) (J4 : Nat → Nat → Int32) (lv0 : List (Nat × Value)), CM h1 x → CW h1 (x + 2) → WB J4 (x + 2) c1 D1 TT → J4 x 8 = nI 0 → Q (some (.int (nI (c1 - c)))) (xJ h1 J4) → (∀ z ∈ ([(0, .ref x), (3, .int (nI c))] : List (Nat × Value)), z ∈ lv0) → aw g l mX10_define 80 lv0 [] (xJ h1 J4) Q := by
    intro h1 J4 lv0 m1 w1 B4 q8 kk hlv
    refine aw_lv hlv ?_
    obtain ⟨v1, ⟨-, v3, -⟩, -⟩ := id m1
    have v2 := w1.1
    refine sX10_define_80 rfl ?_
    refine jX10_define_81 (by assumption) ?_
    rw [q8]
    refine nX10_define_84 (by decide) (fun _ => ?_) (fun y => absurd rfl y)
    refine sX10_define_103 rfl ?_
    refine jX10_define_104 (by assumption) (by assumption) ?_
    refine jX10_define_107 (by assumption) ?_
    rw [B4.2.1]
    refine sX10_define_110 rfl ?_
    refine nX10_define_111 (by omega) ?_
    exact sX10_define_112 kk
  refine jX10_define_29 (by assumption) ?_
  refine sX10_define_32 rfl ?_
  refine jX10_define_33 (by assumption) ?_
  rw [hJ3, e38]
  refine nX10_define_36 (by omega) (fun y => ?_) (fun y => ?_)
  · obtain ⟨p, er, ep⟩ := hf1 y
    subst er
    refine fail h0 J3 f p _ y hf hM0 hW0 B3 e38 (by rw [← hJ3, xup2_n (by decide)]; exact ep) (fun J5 r1 B5 => ?_) (fun z hz => by simp only [List.mem_cons, List.not_mem_nil, or_false] at hz; rcases hz with rfl | rfl <;> exact xlk_mem rfl)
    obtain ⟨a1, a2, a3⟩ := back h0 J5 f (HF_r x h0) hU (fun r _ _ c3 _ _ _ => r1 r c3) (fun j _ _ => by rw [r1 x (by omega)]) (by rw [r1 _ (by omega)]) (by rw [r1 x (by omega)]; exact e38) B5
    exact k1 h0 J5 n f p c1 D1 rf D2 a1 a2 hf a3
  · subst y
    have er := hf0 rfl
    subst er
    refine sX10_define_39 rfl ?_
    refine jX10_define_40 (by assumption) (by assumption) ?_
    refine jX10_define_43 (by assumption) ?_
    rw [B3.2.1]
    refine sX10_define_46 rfl ?_
    have hc1 := D2.1
    refine nX10_define_47 (by omega) (by omega) (fun y => ?_) (fun y => ?_)
    · have ec : c1 = c := by omega
      subst ec
      obtain ⟨a1, a2, a3⟩ := back h0 J3 0 (HF_r x h0) hU (fun _ _ _ _ _ _ _ => rfl) (fun _ _ _ => rfl) rfl e38 (WB_take (Nat.le_refl _) (fun k hk => (pre2 k hk).symm) (fun _ _ => rfl) B3.2.1 B3.2.2.1 B3)
      refine fine h0 J3 _ hM0 hW0 B3 e38 ?_ (fun z hz => by simp only [List.mem_cons, List.not_mem_nil, or_false] at hz; rcases hz with rfl | rfl <;> exact xlk_mem rfl)
      rw [Nat.sub_self]
      exact k4 h0 J3 n D1 rf a1 a2 a3
    · have ct3 : CT g h0 J3 := ⟨hU.2.2.2.2.2.2, fun i hi => by rw [jf3 _ (Or.inl gx)]; exact hten i hi⟩
      have b13 : J3 (x + 32 + 1213) 0 = nI B := by rw [hi3 _ (by omega)]; exact b1
      have y5' : xP h0 x 5 = some (x + 32) := y5
      have t7 := hR.1
      refine sX10_define_50 rfl ?_
      refine jX10_define_51 (by assumption) (by assumption) ?_
      refine sX10_define_54 rfl ?_
      refine jX10_define_55 (by assumption) (by assumption) ?_
      refine jX10_define_58 (Nat.le_of_ble_eq_true rfl) (by assumption) ?_
      refine c_settle (mg := dM c1 D1) (bv := bvO (fbn D1)) (fun _ => rfl) rfl hU (WB_D D2 B3) ct3 b13 B16 B512 (fun h' J4 E' hz u' fv le all => ?_) (fun h' J4 j hz u' fv hj nf af => ?_)
      · have o4 : ∀ r, r < H → r ≠ x + 2 → r ≠ x + 32 → r < L' ∨ L' + 604 ≤ r → r < x + 32 + 1210 ∨ x + 32 + 1226 ≤ r → J4 r = J3 r := fun r a1 a2 a3 a4 a5 => fv.1 r a1 a3 a2 a4 a5
        have rx : J4 x = J3 x := o4 x (by omega) (by omega) (by omega) (by omega) (by omega)
        have hf1 : HF x h0 h' := HF_Z hz
        have low1 := low_t low0 (HF_low hf1 (by omega))
        have fx : xP h' (x + 2 + 14) 0 = some (x + 2 + 1) := u'.1.2.2.2.2.2.2.1
        have efx : fxT h' x = h' := fxT_id fx
        have B4 : WB J4 (x + 2) c1 D1 TT := WB_x (fun r a1 a2 a3 => o4 r (by omega) (by omega) (by omega) (by omega) (by omega)) (fv.2.1 9 (by decide) (by decide)) (fv.2.1 10 (by decide) (by decide)) B3
        refine sX10_define_61 ?_
        refine sX10_define_63 rfl ?_
        refine sX10_define_65 ?_
        refine sX10_define_66 (fun _ => ?_) (fun v => absurd rfl v)
        refine fine h' J4 _ (low_CM low1 hM) u'.1.1 B4 (by rw [rx]; exact e38) ?_ (fun z hz => by simp only [List.mem_cons, List.not_mem_nil, or_false] at hz; rcases hz with rfl | rfl <;> exact xlk_mem rfl)
        refine k3 h' J4 n c1 D1 E' rf y (fun k hk => all k hk) (HF_t hfT hf1) (fun r hr => ?_) hte2 ⟨⟨low_CM low1 hM, by rw [efx]; exact u', low_CV low1 hCV, low_CE low1 hCE⟩, fun _ => fx, ⟨by rw [rx, x3 0 (by decide) (by decide) (by decide)]; exact b0, by rw [fv.2.2]; exact b13, B16, B512⟩, fun i hi => ?_, ⟨by rw [rx]; exact x32, by decide, fun i hi => by omega⟩, D2, B4, le, ⟨VJ_c (fun r a1 a2 => by rw [o4 r (by omega) (by omega) (by omega) (by omega) (by omega), hi3 r (by omega)]) hV, wV⟩, by rw [rx]; exact e38, by rw [rx, x3 10 (by decide) (by decide) (by decide)]; exact e10⟩
        · rw [o4 r (by omega) (by omega) (by omega) (by omega) (by omega)]; exact jf3 r hr
        · rw [o4 _ (by omega) (by omega) (by omega) (by omega) (by omega), jf3 _ (Or.inl gx)]; exact hten i hi
      · have o4 : ∀ r, r < H → r ≠ x + 2 → r ≠ x + 32 → r < L' ∨ L' + 604 ≤ r → r < x + 32 + 1210 ∨ x + 32 + 1226 ≤ r → J4 r = J3 r := fun r a1 a2 a3 a4 a5 => fv.1 r a1 a3 a2 a4 a5
        have rx : J4 x = J3 x := o4 x (by omega) (by omega) (by omega) (by omega) (by omega)
        have hf1 : HF x h0 h' := HF_Z hz
        have low1 := low_t low0 (HF_low hf1 (by omega))
        have hM' := low_CM low1 hM
        obtain ⟨v1, ⟨-, v3, -⟩, -⟩ := id hM'
        have B4 : WB J4 (x + 2) c1 D1 TT := WB_x (fun r a1 a2 a3 => o4 r (by omega) (by omega) (by omega) (by omega) (by omega)) (fv.2.1 9 (by decide) (by decide)) (fv.2.1 10 (by decide) (by decide)) B3
        refine sX10_define_61 ?_
        refine sX10_define_63 rfl ?_
        refine sX10_define_65 ?_
        refine sX10_define_66 (fun v => absurd v (oI_neg (by omega))) (fun _ => ?_)
        refine sX10_define_69 rfl ?_
        refine nX10_define_70 ?_
        refine jX10_define_71 (by assumption) ?_
        refine sX10_define_74 rfl ?_
        refine sX10_define_75 rfl ?_
        refine jX10_define_77 (by assumption) ?_
        generalize hJ5 : xup2 (xup2 J4 x 8 (nI 4)) x 9 (nI j) = J5
        have o5 : ∀ r, r ≠ x → J5 r = J4 r := fun r hr => by rw [← hJ5, xup2_r hr, xup2_r hr]
        have x5 : ∀ i, i ≠ 8 → i ≠ 9 → J5 x i = J4 x i := fun i a1 a2 => by rw [← hJ5, xup2_n a2, xup2_n a1]
        have e58 : J5 x 8 = nI 4 := by rw [← hJ5, xup2_n (by decide), xup2_s]
        have e59 : J5 x 9 = nI j := by rw [← hJ5, xup2_s]
        refine fail h' J5 4 j _ (by decide) (by decide) hM' u'.1.1 (WB_x (fun r a1 a2 a3 => o5 r (by omega)) (by rw [o5 _ (by omega)]) (by rw [o5 _ (by omega)]) B4) e58 e59 (fun J6 r1 B6 => ?_) (fun z hz => by simp only [List.mem_cons, List.not_mem_nil, or_false] at hz; rcases hz with rfl | rfl <;> exact xlk_mem rfl)
        obtain ⟨a1, a2, a3⟩ := back h' J6 4 hf1 u' (fun r c1 c2 c3 c4 c5 c6 => by rw [r1 r c3, o5 r c2, o4 r c1 c3 c4 c5 c6]) (fun i c1 c2 => by rw [r1 x (by omega), x5 i c1 c2, rx]) (by rw [r1 _ (by omega), o5 _ (by omega), fv.2.2]) (by rw [r1 x (by omega)]; exact e58) B6
        exact k2 h' J6 n c1 D1 j rf D2 y hj nf af a1 a2 a3
end CDef
