/-! ===== the class reads lines ===== -/
def fxT (h : xH) (x : Nat) : xH := xsP h (x + 2 + 14) 0 (some (x + 2 + 1))
theorem fxT_P {h : xH} {x a : Nat} (ha : a ≠ x + 2 + 14) : xP (fxT h x) a = xP h a := xs_n ha
theorem fxT_id {h : xH} {x : Nat} (e : xP h (x + 2 + 14) 0 = some (x + 2 + 1)) : fxT h x = h := by
  obtain ⟨n, s, T, I, P⟩ := h
  unfold fxT xsP
  simp only [Prod.mk.injEq, true_and]
  funext a j
  show (if a = x + 2 + 14 then (if j = 0 then some (x + 2 + 1) else P a j) else P a j) = P a j
  by_cases z : a = x + 2 + 14
  · rw [if_pos z]
    by_cases y : j = 0
    · rw [if_pos y, z, y]; exact e.symm
    · rw [if_neg y]
  · rw [if_neg z]
theorem fxT_2 {h : xH} {x : Nat} : fxT (fxT h x) x = fxT h x := fxT_id xs_s
theorem CM_f {h : xH} {x : Nat} (hM : CM h x) : CM (fxT h x) x := by
  obtain ⟨a, b, c⟩ := hM
  exact ⟨a, by rw [fxT_P (by omega)]; exact b, c⟩
theorem CW_f {h : xH} {x : Nat} (hW : CW (fxT h x) (x + 2)) : CW h (x + 2) := by
  obtain ⟨a, b, c, d, e, f, i⟩ := hW
  rw [fxT_P (by omega)] at b f
  exact ⟨a, b, c, d, e, f, i⟩
/-- the TAPE behind the texts -/
def tT (T tp : Nat → Nat) (fr n q : Nat) : Nat := if fr ≤ q ∧ q < fr + n then tp (q - fr) else T q
def fL (x : Nat) (J J' : Nat → Nat → Int32) : Prop := (∀ r, r ≠ x → r < x + 2 ∨ x + 20 ≤ r → J' r = J r) ∧ ∀ j, j ≠ 9 → J' x j = J x j
theorem fL_t {x : Nat} {J J1 J2 : Nat → Nat → Int32} (a : fL x J J1) (b : fL x J1 J2) : fL x J J2 := ⟨fun r h1 h2 => (b.1 r h1 h2).trans (a.1 r h1 h2), fun j hj => (b.2 j hj).trans (a.2 j hj)⟩
theorem fL_r (x : Nat) (J : Nat → Nat → Int32) : fL x J J := ⟨fun _ _ _ => rfl, fun _ _ => rfl⟩
theorem fL_1 {x : Nat} {J J' : Nat → Nat → Int32} {q : Nat} (h1 : x + 2 ≤ q) (h2 : q < x + 20) (o : ∀ r, r ≠ q → J' r = J r) : fL x J J' := ⟨fun r _ h => o r (by omega), fun j _ => by rw [o x (by omega)]⟩
theorem fL_C {x i : Nat} {J J' : Nat → Nat → Int32} (f : fC (x + 2) i J J') : fL x J J' := ⟨fun r _ h => f.1 r (by omega) (by omega) (by omega) (by omega) (by omega) (by omega) (by omega) (by omega), fun j _ => by rw [f.1 x (by omega) (by omega) (by omega) (by omega) (by omega) (by omega) (by omega) (by omega)]⟩
theorem fL_9 {x : Nat} {J : Nat → Nat → Int32} {v : Int32} : fL x J (xup2 J x 9 v) := ⟨fun r h _ => xup2_r h, fun j hj => xup2_n hj⟩
section CLine
variable {g : xG} {l : Launch} {h : xH} {J : Nat → Nat → Int32} {Q : Option Value → xH → Prop} {x c : Nat} {D : Nat → Df} {T tp : Nat → Nat}
theorem c_takeTape {ts fr : Nat} (hM : CM h x) (hW : CW h (x + 2)) (h2 : J x 2 = nI ts) (hts : ts ≤ 4000) (hfr : fr + ts ≤ 10240) (hT : WT J (x + 2) T) (htp : ∀ i, i < ts → J (x + 1) i = sb (tp i) ∧ tp i < 256) (k : ∀ J', (∀ r, r ≠ x → r ≠ x + 2 + 1 → J' r = J r) → (∀ j, j ≠ 2 → J' x j = J x j) → J' x 2 = nI 0 → WT J' (x + 2) (tT T tp fr ts) → Q (some (.int (nI (fr + ts)))) (xJ h J')) : ac g l mX10_takeTape [.ref x, .int (nI fr)] (xJ h J) Q := by
  refine ac_of (by decide) (Nat.le_of_ble_eq_true rfl) ?_
  obtain ⟨t1, ⟨p1, p3, -⟩, tt⟩ := hM
  obtain ⟨tw, ⟨w0, -⟩, wt, -⟩ := hW
  refine nX10_takeTape_0 ?_
  refine sX10_takeTape_1 rfl ?_
  refine jX10_takeTape_2 (by assumption) ?_
  rw [h2]
  refine nX10_takeTape_5 ?_
  refine sX10_takeTape_8 rfl ?_
  refine nX10_takeTape_9 (by omega) ?_
  refine mX10_takeTape_10n (Nat.le_of_ble_eq_true rfl) (by omega) (by omega) ?_
  rw [Nat.min_eq_left (by omega)]
  refine mX10_takeTape_13n (Nat.le_of_ble_eq_true rfl) (by omega) (by omega) ?_
  rw [Nat.max_eq_right (Nat.zero_le _)]
  refine sX10_takeTape_16 ?_
  refine sX10_takeTape_17 rfl ?_
  refine jX10_takeTape_18 (by assumption) (by assumption) ?_
  refine nX10_takeTape_21 ?_
  refine sX10_takeTape_22 rfl ?_
  refine jX10_takeTape_23 (by assumption) (by assumption) ?_
  refine jX10_takeTape_26 (by assumption) (by assumption) ?_
  refine sX10_takeTape_29 rfl ?_
  refine sX10_takeTape_30 rfl ?_
  have fb : ∀ i, i < ts → fits .byte (.int (J (x + 1) i)) = true := fun i hi => by
    rw [(htp i hi).1]
    have hv := (htp i hi).2
    generalize tp i = v at hv
    revert v
    decide +kernel
  refine sX10_takeTape_31 (kd := 101) (Nat.le_of_ble_eq_true rfl) (Or.inr rfl) (congrArg Prod.fst tt) (congrArg Prod.fst wt) (nI_pos (by decide)) (nI_pos (by omega)) (nI_pos (by omega)) ?_ ?_ (fun _ i hi => ?_) ?_
  · show (nI 0).toNatClampNeg + (nI ts).toNatClampNeg ≤ (xT h (x + 1)).2
    rw [tt, nI_clamp (by decide), nI_clamp (by omega)]; show 0 + ts ≤ 4000; omega
  · show (nI fr).toNatClampNeg + (nI ts).toNatClampNeg ≤ (xT h (x + 2 + 1)).2
    rw [wt, nI_clamp (by omega), nI_clamp (by omega)]; exact hfr
  · rw [nI_clamp (by omega)] at hi
    rw [nI_clamp (by decide), Nat.zero_add]
    exact fb i hi
  rw [nI_clamp (show 0 < 2 ^ 31 by decide), nI_clamp (show ts < 2 ^ 31 by omega), nI_clamp (show fr < 2 ^ 31 by omega)]
  show aw g l mX10_takeTape 34 _ [] (xJ h (va_up J (x + 2 + 1) (va_cpy (J (x + 1)) (J (x + 2 + 1)) 0 fr ts))) Q
  refine sX10_takeTape_34 rfl ?_
  refine nX10_takeTape_35 ?_
  refine jX10_takeTape_36 (by assumption) ?_
  refine sX10_takeTape_39 rfl ?_
  refine sX10_takeTape_40 rfl ?_
  refine nX10_takeTape_41 ?_
  refine sX10_takeTape_42 (k _ (fun r a1 a2 => by rw [xup2_r a1, vup_n a2]) (fun j hj => by rw [xup2_n hj, vup_n (by omega)]) xup2_s (fun q hq => ?_))
  rw [xup2_r (by omega), vup_s]
  unfold tT
  by_cases z : fr ≤ q ∧ q < fr + ts
  · rw [if_pos z, pk_cpy_in z.1 z.2, Nat.zero_add]
    exact htp _ (by omega)
  · rw [if_neg z]
    rw [show va_cpy (J (x + 1)) (J (x + 2 + 1)) 0 fr ts q = J (x + 2 + 1) q by unfold va_cpy; rw [if_neg z]]
    exact hT q hq
theorem WB_push {J J' : Nat → Nat → Int32} {w m a : Nat} {C : Nat → Nat} {D1 : Nat → Df} {L : List St} {e : Nat} (hr : D1 = va_up D c (lRec C m a c D L e)) (hB : WB J w c D T) (o1 : ∀ r, r < w ∨ w + 12 < r ∨ w < r ∧ r < w + 6 → J' r = J r) (o2 : ∀ r, w + 6 ≤ r → r ≤ w + 12 → ∀ i, i ≠ c → J' r i = J r i) (e9 : J' w 9 = nI (c + 1)) (e10 : J' w 10 = nI (nb (fso D) c + (if lkS C m a = 0 then 1 else 0))) (q6 : J' (w + 6) c = nI (lkS C m a)) (q7 : J' (w + 7) c = nI a) (q8 : J' (w + 8) c = nI (tkT C m a - a)) (q9 : J' (w + 9) c = nI (nb (fso D) c)) (q10 : J' (w + 10) c = nI (eO (fce D) c)) (q11 : J' (w + 11) c = nI (eO (fce D) c + L.length)) (q12 : J' (w + 12) c = nI m) (hs : sg J w (eO (fce D) c) L) (hn : ∀ q, q < m → T q = C q) (hle : tkT C m a ≤ m) : WB J' w (c + 1) D1 T := by
  have hpre : ∀ k, k < c → D1 k = D k := fun k hk => by rw [hr]; exact vup_n (by omega)
  obtain ⟨e1, e2, e3, e4, e5, e6, e7, e8, e9', e10', e11, e12, e13, e14, e15⟩ := rec_f hr
  obtain ⟨b1, b2, b3, b4⟩ := hB
  have ss : ∀ {k : Nat} {L : List St}, sg J w k L → sg J' w k L := fun z => sg_same (o1 _ (by omega)) (o1 _ (by omega)) (o1 _ (by omega)) z
  refine ⟨fun q hq => by rw [o1 _ (by omega)]; exact b1 q hq, e9, ?_, fun k hk => ?_⟩
  · show _ = nI (nb (fso D1) c + (if fso D1 c = 0 then 1 else 0))
    rw [e1, nb_c (c := c) (so := fso D) (fun k hk => (f_c (hpre k hk)).1) (Nat.le_refl _)]
    exact e10
  · rcases Nat.eq_or_lt_of_le (Nat.le_of_lt_succ hk) with z | z
    · subst z
      rw [e1, e2, e3, e4, e5, e6, e7, e8, e9', e14, e15]
      exact ⟨q6, q7, q8, q9, q10, q11, q12, ss hs, fun i hi => (hn _ (by omega)).symm, fun _ q hq => hn q hq⟩
    · obtain ⟨c1, c2, c3, c4, c5, c6, c7, c8, c9, c10⟩ := b4 k z
      obtain ⟨g1, g2, g3, g4, g5, g6, g7, g8, g9, g10, g11, g12, g13, g14, g15⟩ := f_c (hpre k z)
      rw [g1, g2, g3, g4, g5, g6, g7, g8, g9, g14, g15, o2 _ (by omega) (by omega) k (by omega), o2 _ (by omega) (by omega) k (by omega), o2 _ (by omega) (by omega) k (by omega), o2 _ (by omega) (by omega) k (by omega), o2 _ (by omega) (by omega) k (by omega), o2 _ (by omega) (by omega) k (by omega), o2 _ (by omega) (by omega) k (by omega)]
      exact ⟨c1, c2, c3, c4, c5, c6, c7, ss c8, c9, c10⟩
theorem c_readLine {fr s m : Nat} (hM : CM h x) (hQ : CQ (fxT h x) (x + 2)) (hD : DB c D) (hB : WB J (x + 2) c D T) (hsm : s ≤ m) (hm : m ≤ 10240) (hfr : fr ≤ s) (hte : eO (fte D) c ≤ s)
    (kB : ∀ J' f p, LB (cT T m) fr m (tkF (cT T m) m s) c D f p → f ≠ 0 → f < 100 → fL x J J' → WB J' (x + 2) c D T → J' x 9 = nI p → Q (some (.int (nI f))) (xJ (fxT h x) J'))
    (kO : ∀ J' c1 D1, LO (cT T m) m (tkF (cT T m) m s) c D c1 D1 → fL x J J' → WB J' (x + 2) c1 D1 T → DB c1 D1 → eO (fte D1) c1 ≤ m → Q (some (.int (nI 0))) (xJ (fxT h x) J')) : ac g l mX10_readLine [.ref x, .int (nI s), .int (nI m), .int (nI fr)] (xJ h J) Q := by
  refine ac_of (by decide) (Nat.le_of_ble_eq_true rfl) ?_
  have hC : tOk (cT T m) m := cT_ok (fun q hq => (hB.1 q hq).2) hm
  have hTC : ∀ q, q < m → T q = cT T m q := fun q hq => (cT_in hq).symm
  have hasa : s ≤ tkF (cT T m) m s := tkF_ge _ _ _
  have ham : tkF (cT T m) m s ≤ m := tkF_le hsm
  have haF : tkF (cT T m) m (tkF (cT T m) m s) = tkF (cT T m) m s := rnd_idem
  have hbC : ∀ q, q < m → J (x + 2 + 1) q = sb (cT T m q) := fun q hq => by rw [cT_in hq]; exact (hB.1 q (by omega)).1
  generalize hCe : cT T m = C at *
  generalize hae : tkF C m s = a at *
  -- the first token
  have first : ∀ (J1 : Nat → Nat → Int32) (h1 : xH) (lv0 : List (Nat × Value)), h1 = fxT h x → (∀ r, r ≠ x + 2 + 14 → J1 r = J r) → TJ J1 (x + 2 + 14) (x + 2 + 1) C m → TS J1 (x + 2 + 14) C m a → (∀ z ∈ ([(0, .ref x), (2, .int (nI m)), (3, .int (nI fr)), (4, .ref (x + 2 + 14))] : List (Nat × Value)), z ∈ lv0) → aw g l mX10_readLine 23 lv0 [] (xJ h1 J1) Q := by
    intro J1 h1 lv0 hh o1 tj ts hlv
    refine aw_lv hlv ?_
    have hM1 : CM h1 x := by rw [hh]; exact CM_f hM
    rw [← hh] at hQ kB kO
    obtain ⟨t1, ⟨p1, p3, p4, p5, p6, p7⟩, ttp⟩ := id hM1
    obtain ⟨hW, t13, ⟨q0, q1, q2⟩, t16, t17, hK⟩ := id hQ
    obtain ⟨tw, ⟨w0, w1, -⟩, -, -, tc, -⟩ := id hW
    have t14 := hK.1
    have p4' : xP h1 x 4 = some (x + 2 + 13) := p4
    have f1 : fL x J J1 := fL_1 (by omega) (by omega) o1
    have B1 : WB J1 (x + 2) c D T := WB_x (fun r a1 a2 a3 => o1 r (by omega)) (by rw [o1 _ (by omega)]) (by rw [o1 _ (by omega)]) hB
    have hc := hD.1
    have kb := (tkK_big C m a).1
    -- a FAULT in the syntax
    have syn : ∀ (J2 : Nat → Nat → Int32) (e : Nat) (lv1 : List (Nat × Value)), a ≤ e → e ≤ m → TS J2 (x + 2 + 14) C m e → fL x J J2 → WB J2 (x + 2) c D T → LB C fr m a c D 1 (e - fr) → (∀ z ∈ ([(0, .ref x), (3, .int (nI fr)), (4, .ref (x + 2 + 14))] : List (Nat × Value)), z ∈ lv1) → aw g l mX10_readLine 202 lv1 [] (xJ h1 J2) Q := by
      intro J2 e lv1 hae hem ts2 f2 B2 lb hlv1
      refine aw_lv hlv1 ?_
      refine sX10_readLine_202 rfl ?_
      refine sX10_readLine_203 rfl ?_
      refine jX10_readLine_205 (by assumption) ?_
      rw [ts2.1]
      refine sX10_readLine_208 rfl ?_
      refine nX10_readLine_209 (by omega) ?_
      refine jX10_readLine_210 (by assumption) ?_
      refine nX10_readLine_213 ?_
      refine sX10_readLine_214 (kB _ 1 (e - fr) lb (by decide) (by decide) (fL_t f2 fL_9) (WB_x (fun r a1 a2 _ => xup2_r (by omega)) (by rw [xup2_r (by omega)]) (by rw [xup2_r (by omega)]) B2) xup2_s)
    -- the steps begin behind the last
    have cend : ∀ (pf gd : Int32) (nn : Nat) (lv1 : List (Nat × Value)), (∀ J2, J2 = xup2 J1 (x + 2 + 2) 3 (nI (eO (fce D) c)) → aw g l mX10_readLine 113 [(0, .ref x), (2, .int (nI m)), (3, .int (nI fr)), (4, .ref (x + 2 + 14)), (5, .int (nI a)), (6, .int (nI nn)), (7, .int gd), (8, .int pf), (9, .int (nI 0))] [] (xJ h1 J2) Q) → (∀ z ∈ ([(0, .ref x), (2, .int (nI m)), (3, .int (nI fr)), (4, .ref (x + 2 + 14)), (5, .int (nI a)), (6, .int (nI nn)), (7, .int gd), (8, .int pf)] : List (Nat × Value)), z ∈ lv1) → aw g l mX10_readLine 93 lv1 [] (xJ h1 J1) Q := by
      intro pf gd nn lv1 kk hlv1
      refine aw_lv hlv1 ?_
      refine nX10_readLine_93 ?_
      refine sX10_readLine_94 ?_
      refine sX10_readLine_96 rfl ?_
      refine jX10_readLine_97 (by assumption) (by assumption) ?_
      refine jX10_readLine_100 (by assumption) (by assumption) ?_
      refine sX10_readLine_103 rfl ?_
      refine jX10_readLine_104 (by assumption) (by assumption) ?_
      refine jX10_readLine_107 (Nat.le_of_ble_eq_true rfl) (by assumption) ?_
      refine c_codeEnd (e := eO (fce D) c) hW B1.2.1 hc (WB_eO B1).1 ?_
      refine jX10_readLine_110 (by assumption) ?_
      exact aw_lv (fun z hz => by simp only [List.mem_cons, List.not_mem_nil, or_false] at hz; rcases hz with rfl | rfl | rfl | rfl | rfl | rfl | rfl | rfl | rfl <;> exact xlk_mem rfl) (kk _ rfl)
    refine sX10_readLine_23 rfl ?_
    refine jX10_readLine_25 (by assumption) ?_
    rw [ts.2.1]
    refine nX10_readLine_28 (by omega) (fun z0 => ?_) (fun z0 => ?_)
    · -- a token
      have ham' : a < m := tkK_lt z0
      have tT1 := tkT_gt (C := C) ham'
      have tT2 := tkT_le hC ham
      refine sX10_readLine_33 rfl ?_
      refine jX10_readLine_35 (by assumption) ?_
      rw [ts.1]
      refine sX10_readLine_38 ?_
      refine sX10_readLine_40 rfl ?_
      refine jX10_readLine_42 (by assumption) ?_
      rw [ts.2.2.1]
      refine sX10_readLine_45 rfl ?_
      refine nX10_readLine_47 (by omega) ?_
      refine sX10_readLine_48 ?_
      refine sX10_readLine_50 rfl ?_
      refine jX10_readLine_52 (by assumption) ?_
      rw [ts.2.1]
      refine nX10_readLine_55 ?_
      refine nX10_readLine_56 (by omega) (by decide) (fun z2 => ?_) (fun z2 => ?_)
      · -- no NAME
        refine sX10_readLine_63 ?_
        refine sX10_readLine_64 ?_
        refine sX10_readLine_66 rfl ?_
        refine sX10_readLine_68 (fun _ => ?_) (fun y => absurd rfl y)
        refine sX10_readLine_90 ?_
        refine sX10_readLine_91 ?_
        refine cend 0 0 (tkT C m a - a) _ (fun J2 hJ2 => ?_) (fun z hz => by simp only [List.mem_cons, List.not_mem_nil, or_false] at hz; rcases hz with rfl | rfl | rfl | rfl | rfl | rfl | rfl | rfl <;> exact xlk_mem rfl)
        have o2 : ∀ r, r ≠ x + 2 + 2 → J2 r = J1 r := fun r hr => by rw [hJ2, xup2_r hr]
        refine sX10_readLine_113 rfl ?_
        refine sX10_readLine_115 (fun _ => ?_) (fun y => absurd rfl y)
        refine sX10_readLine_189 rfl ?_
        refine sX10_readLine_191 (fun _ => ?_) (fun y => absurd rfl y)
        refine syn J2 a _ (Nat.le_refl _) ham (by unfold TS at ts ⊢; rw [o2 _ (by omega)]; exact ts) (fL_t f1 (fL_1 (by omega) (by omega) o2)) (WB_x (fun r a1 a2 a3 => o2 r (by omega)) (by rw [o2 _ (by omega)]) (by rw [o2 _ (by omega)]) B1) ⟨z0, Or.inl ⟨z2, rfl, rfl⟩⟩ (fun z hz => by simp only [List.mem_cons, List.not_mem_nil, or_false] at hz; rcases hz with rfl | rfl | rfl <;> exact xlk_mem rfl)
      · -- a NAME
        obtain ⟨-, hcL, -, hn24⟩ := kN z2
        -- all is well: one more, or TWICE or MUCH
        have good : ∀ (J2 : Nat → Nat → Int32) (L : List St) (e sv : Nat) (lv1 : List (Nat × Value)), lkS C m a = sv → lGood C m a L e → fL x J J2 → WB J2 (x + 2) c D T → sg J2 (x + 2) (eO (fce D) c) L → J2 (x + 2 + 2) 3 = nI (eO (fce D) c + L.length) → 3 * (eO (fce D) c + L.length) ≤ 4 * m → (∀ z ∈ ([(0, .ref x), (2, .int (nI m)), (3, .int (nI fr)), (5, .int (nI a)), (6, .int (nI (tkT C m a - a)))] : List (Nat × Value)), z ∈ lv1) → aw g l mX10_readLine 234 lv1 [.int (nI sv)] (xJ h1 J2) Q := by
          intro J2 L e sv lv1 hsv hg f2 B2 hsg hsz hlen hlv1
          refine aw_lv hlv1 ?_
          subst hsv
          have hs2 := lkS_le (C := C) (m := m) (a := a)
          have hb10 := B2.2.2.1
          have hnb := hD.2.2.2.1
          have tw1 : fd (pG (fso D) (fln D) (fnm D) (decide (lkS C m a = 2)) T a (tkT C m a - a)) 0 c = fd (pG (fso D) (fln D) (fnm D) (decide (lkS C m a = 2)) C a (tkT C m a - a)) 0 c := by
            refine fd_c (fun k _ hk => ?_)
            unfold pG
            congr 1
            unfold nq
            congr 1
            refine decide_eq_decide.mpr ⟨fun hh i hi => by rw [hh i hi, hTC _ (by omega)], fun hh i hi => by rw [hh i hi, hTC _ (by omega)]⟩
          -- behind objection
          have after : ∀ (f : Nat) (lv2 : List (Nat × Value)), f < 100 → (f ≠ 0 → LB C fr m a c D f (a - fr)) → (f = 0 → ¬ lTw C m a c D ∧ ¬ lMu C m a c D) → (∀ z ∈ ([(0, .ref x), (2, .int (nI m)), (3, .int (nI fr)), (5, .int (nI a)), (6, .int (nI (tkT C m a - a))), (10, .int (nI (lkS C m a)))] : List (Nat × Value)), z ∈ lv2) → aw g l mX10_readLine 249 lv2 [.int (nI f)] (xJ h1 J2) Q := by
            intro f lv2 hf hb hz hlv2
            refine aw_lv hlv2 ?_
            refine sX10_readLine_249 ?_
            refine sX10_readLine_251 rfl ?_
            refine sX10_readLine_252 rfl ?_
            refine sX10_readLine_254 rfl ?_
            refine nX10_readLine_255 (by omega) ?_
            refine jX10_readLine_256 (by assumption) ?_
            generalize hJ3 : xup2 J2 x 9 (nI (a - fr)) = J3
            have o3 : ∀ r, r ≠ x → J3 r = J2 r := fun r hr => by rw [← hJ3, xup2_r hr]
            have f3 : fL x J J3 := by rw [← hJ3]; exact fL_t f2 fL_9
            have B3 : WB J3 (x + 2) c D T := WB_x (fun r a1 a2 a3 => o3 r (by omega)) (by rw [o3 _ (by omega)]) (by rw [o3 _ (by omega)]) B2
            refine sX10_readLine_259 rfl ?_
            refine nX10_readLine_261 (by omega) (fun y => ?_) (fun y => ?_)
            · refine sX10_readLine_278 rfl ?_
              exact sX10_readLine_280 (kB J3 f (a - fr) (hb y) y hf f3 B3 (by rw [← hJ3, xup2_s]))
            · subst y
              obtain ⟨nt, nm⟩ := hz rfl
              have hc1 : c < 100 := by unfold lMu at nm; omega
              refine sX10_readLine_264 rfl ?_
              refine jX10_readLine_265 (by assumption) (by assumption) ?_
              refine sX10_readLine_268 rfl ?_
              refine sX10_readLine_270 rfl ?_
              refine sX10_readLine_272 rfl ?_
              refine sX10_readLine_274 rfl ?_
              refine jX10_readLine_275 (Nat.le_of_ble_eq_true rfl) (by assumption) ?_
              refine c_add1 (e := eO (fce D) c) (sz := eO (fce D) c + L.length) hW B3.2.1 hc1 B3.2.2.1 (by rw [o3 _ (by omega)]; exact hsz) (by omega) (WB_eO B3).1 (fun J4 u1 u2 u3 u4 u5 u6 u7 u8 u9 u10 u11 u12 => ?_)
              refine sX10_readLine_278 rfl ?_
              have hr : va_up D c (lRec C m a c D L e) = va_up D c (lRec C m a c D L e) := rfl
              refine sX10_readLine_280 (kO J4 (c + 1) (va_up D c (lRec C m a c D L e)) (Or.inr ⟨z2, L, e, hg, nt, nm, hlen, rfl, rfl⟩) (fL_t f3 ⟨fun r a1 a2 => u1 r (by omega), fun j _ => by rw [u1 x (by omega)]⟩) (WB_push rfl B3 u1 u2 u4 u5 u6 u7 u8 u9 u10 u11 u12 (sg_same (o3 _ (by omega)) (o3 _ (by omega)) (o3 _ (by omega)) hsg) hTC tT2) (LO_DB hC hm hD (by omega) z2 hg nt nm hlen rfl) ?_)
              show fte (va_up D c (lRec C m a c D L e)) c ≤ m
              rw [(rec_f (D1 := va_up D c (lRec C m a c D L e)) rfl).2.2.2.2.2.2.2.2.2.2.2.2.2.1]
              exact Nat.le_refl _
          refine sX10_readLine_234 ?_
          refine sX10_readLine_236 rfl ?_
          refine jX10_readLine_237 (by assumption) (by assumption) ?_
          refine sX10_readLine_240 rfl ?_
          refine sX10_readLine_242 rfl ?_
          refine sX10_readLine_244 rfl ?_
          refine jX10_readLine_246 (Nat.le_of_ble_eq_true rfl) (by assumption) ?_
          refine c_objection (nbs := nb (fso D) c) hW B2.1 (WB_D hD B2).2.1 (by omega) (by omega) hb10 (by omega) (fun y => ?_) (fun y1 y2 => ?_) (fun y1 y2 => ?_)
          · rw [tw1] at y
            exact after 2 _ (by decide) (fun _ => ⟨z0, Or.inr ⟨z2, Or.inr (Or.inr (Or.inr (Or.inl ⟨⟨L, e, hg⟩, y, rfl, rfl⟩)))⟩⟩) (fun v => absurd v (by decide)) (fun z hz => by simp only [List.mem_cons, List.not_mem_nil, or_false] at hz; rcases hz with rfl | rfl | rfl | rfl | rfl | rfl <;> exact xlk_mem rfl)
          · rw [tw1] at y1
            exact after 3 _ (by decide) (fun _ => ⟨z0, Or.inr ⟨z2, Or.inr (Or.inr (Or.inr (Or.inr ⟨⟨L, e, hg⟩, fun v => v y1, y2, rfl, rfl⟩)))⟩⟩) (fun v => absurd v (by decide)) (fun z hz => by simp only [List.mem_cons, List.not_mem_nil, or_false] at hz; rcases hz with rfl | rfl | rfl | rfl | rfl | rfl <;> exact xlk_mem rfl)
          · rw [tw1] at y1
            exact after 0 _ (by decide) (fun v => absurd rfl v) (fun _ => ⟨fun v => v y1, y2⟩) (fun z hz => by simp only [List.mem_cons, List.not_mem_nil, or_false] at hz; rcases hz with rfl | rfl | rfl | rfl | rfl | rfl <;> exact xlk_mem rfl)
        -- behind the PREFIX's -
        have name2 : ∀ (pf : Int32) (lv1 : List (Nat × Value)), (pf = 1 ∧ C (tkT C m a) = 45 ∨ pf = 0 ∧ C (tkT C m a) ≠ 45) → (∀ z ∈ ([(0, .ref x), (2, .int (nI m)), (3, .int (nI fr)), (4, .ref (x + 2 + 14)), (5, .int (nI a)), (6, .int (nI (tkT C m a - a))), (7, .int 1)] : List (Nat × Value)), z ∈ lv1) → aw g l mX10_readLine 91 lv1 [.int pf] (xJ h1 J1) Q := by
          intro pf lv1 hpf hlv1
          refine aw_lv hlv1 ?_
          refine sX10_readLine_91 ?_
          refine cend pf 1 (tkT C m a - a) _ (fun J2 hJ2 => ?_) (fun z hz => by simp only [List.mem_cons, List.not_mem_nil, or_false] at hz; rcases hz with rfl | rfl | rfl | rfl | rfl | rfl | rfl | rfl <;> exact xlk_mem rfl)
          have o2 : ∀ r, r ≠ x + 2 + 2 → J2 r = J1 r := fun r hr => by rw [hJ2, xup2_r hr]
          have sz2 : J2 (x + 2 + 2) 3 = nI (eO (fce D) c) := by rw [hJ2, xup2_s]
          have f2 : fL x J J2 := fL_t f1 (fL_1 (by omega) (by omega) o2)
          have B2 : WB J2 (x + 2) c D T := WB_x (fun r a1 a2 a3 => o2 r (by omega)) (by rw [o2 _ (by omega)]) (by rw [o2 _ (by omega)]) B1
          have tj2 : TJ J2 (x + 2 + 14) (x + 2 + 1) C m := TJ_c (o2 _ (by omega)) (by rw [o2 _ (by omega)]) tj
          have nl1 : nx C m a ≤ m := nx_le hC ham
          have ng1 := nx_gt (C := C) ham'
          -- the EXPR, from the token at lkX on
          have expr : ∀ (J3 : Nat → Nat → Int32) (lv2 : List (Nat × Value)), lkS C m a ≠ 0 → (∀ r, r ≠ x + 2 + 14 → J3 r = J2 r) → TJ J3 (x + 2 + 14) (x + 2 + 1) C m → TS J3 (x + 2 + 14) C m (lkX C m a) → (∀ z ∈ ([(0, .ref x), (2, .int (nI m)), (3, .int (nI fr)), (4, .ref (x + 2 + 14)), (5, .int (nI a)), (6, .int (nI (tkT C m a - a))), (8, .int pf), (9, .int 0)] : List (Nat × Value)), z ∈ lv2) → aw g l mX10_readLine 160 lv2 [] (xJ h1 J3) Q := by
            intro J3 lv2 hs0 o3 tj3 ts3 hlv2
            refine aw_lv hlv2 ?_
            obtain ⟨hx1, hx2⟩ := lkX_gt hC ham'
            have hce := DB_ce hD
            have B3 : WB J3 (x + 2) c D T := WB_x (fun r a1 a2 a3 => o3 r (by omega)) (by rw [o3 _ (by omega)]) (by rw [o3 _ (by omega)]) B2
            have f3 : fL x J J3 := fL_t f2 (fL_1 (by omega) (by omega) o3)
            refine sX10_readLine_160 rfl ?_
            refine sX10_readLine_162 (fun y => absurd rfl y) (fun _ => ?_)
            refine sX10_readLine_165 rfl ?_
            refine jX10_readLine_166 (by assumption) (by assumption) ?_
            refine sX10_readLine_169 rfl ?_
            refine jX10_readLine_170 (by assumption) (by assumption) ?_
            refine jX10_readLine_173 (by assumption) (by assumption) ?_
            refine jX10_readLine_176 (Nat.le_of_ble_eq_true rfl) (by assumption) ?_
            refine c_readExpr (u := 1) (i := eO (fce D) c) (a := lkX C m a) (C := C) (m := m) hQ hx2 (by omega) tj3 ts3 (by rw [o3 _ (by omega)]; exact sz2) ⟨fun J4 L e pm fc hsg pt hem hlen => ?_, fun J4 e pm fc tj4 ts4 hem _ => ?_⟩
            · obtain ⟨-, ts4, sz4, -⟩ := pt
              have hge := pm0_ge pm
              have f4 : fL x J J4 := fL_t f3 (fL_C fc)
              have B4 : WB J4 (x + 2) c D T := WB_f hD (Nat.le_refl _) fc B3
              have kb4 := (tkK_big C m e).1
              refine sX10_readLine_179 (fun y => absurd y (by decide)) (fun _ => ?_)
              refine sX10_readLine_182 ?_
              refine sX10_readLine_183 ?_
              refine sX10_readLine_187 ?_
              refine sX10_readLine_189 rfl ?_
              refine sX10_readLine_191 (fun y => absurd y (by decide)) (fun _ => ?_)
              refine sX10_readLine_194 rfl ?_
              refine jX10_readLine_196 (by assumption) ?_
              rw [ts4.2.1]
              refine nX10_readLine_199 (by omega) (fun y => ?_) (fun y => ?_)
              · have hg : lGood C m a L e := Or.inr ⟨hs0, pm, y⟩
                refine sX10_readLine_215 rfl ?_
                refine sX10_readLine_217 (fun _ => ?_) (fun v => absurd rfl v)
                refine sX10_readLine_224 rfl ?_
                rcases hpf with ⟨rfl, hp⟩ | ⟨rfl, hp⟩
                · refine sX10_readLine_226 (fun v => absurd v (by decide)) (fun _ => ?_)
                  refine nX10_readLine_229 ?_
                  refine sX10_readLine_230 ?_
                  have e2 : lkS C m a = 2 := lkS_2.mpr hp
                  exact good J4 L e 2 _ e2 hg f4 B4 hsg sz4 (by omega) (fun z hz => by simp only [List.mem_cons, List.not_mem_nil, or_false] at hz; rcases hz with rfl | rfl | rfl | rfl | rfl <;> exact xlk_mem rfl)
                · refine sX10_readLine_226 (fun _ => ?_) (fun v => absurd rfl v)
                  refine nX10_readLine_233 ?_
                  have e1 : lkS C m a = 1 := by
                    have := lkS_le (C := C) (m := m) (a := a)
                    have : lkS C m a ≠ 2 := fun v => hp (lkS_2.mp v)
                    omega
                  exact good J4 L e 1 _ e1 hg f4 B4 hsg sz4 (by omega) (fun z hz => by simp only [List.mem_cons, List.not_mem_nil, or_false] at hz; rcases hz with rfl | rfl | rfl | rfl | rfl <;> exact xlk_mem rfl)
              · exact syn J4 e _ (by omega) hem ts4 f4 B4 ⟨z0, Or.inr ⟨z2, Or.inr (Or.inr (Or.inl ⟨hs0, L, e, pm, y, rfl, rfl⟩))⟩⟩ (fun z hz => by simp only [List.mem_cons, List.not_mem_nil, or_false] at hz; rcases hz with rfl | rfl | rfl <;> exact xlk_mem rfl)
            · obtain ⟨L, pm⟩ := pm
              have hge := pm0_ge pm
              refine sX10_readLine_179 (fun _ => ?_) (fun y => absurd rfl y)
              refine sX10_readLine_186 ?_
              refine sX10_readLine_187 ?_
              refine sX10_readLine_189 rfl ?_
              refine sX10_readLine_191 (fun _ => ?_) (fun y => absurd rfl y)
              exact syn J4 e _ (by omega) hem ts4 (fL_t f3 (fL_C fc)) (WB_f hD (Nat.le_refl _) fc B3) ⟨z0, Or.inr ⟨z2, Or.inr (Or.inl ⟨hs0, L, e, pm, rfl, rfl⟩)⟩⟩ (fun z hz => by simp only [List.mem_cons, List.not_mem_nil, or_false] at hz; rcases hz with rfl | rfl | rfl <;> exact xlk_mem rfl)
          refine sX10_readLine_113 rfl ?_
          refine sX10_readLine_115 (fun y => absurd y (by decide)) (fun _ => ?_)
          refine sX10_readLine_118 rfl ?_
          refine jX10_readLine_120 (Nat.le_of_ble_eq_true rfl) (by assumption) ?_
          refine c_next hK tj2 tT2 (by rw [o2 _ (by omega)]; exact ts.2.2.1) (fun J3 o3 tj3 ts3 => ?_)
          have kb3 := (tkK_big C m (nx C m a)).1
          have hts3 : TS J3 (x + 2 + 14) C m (nx C m a) := ts3
          have tT3 := tkT_le hC nl1
          refine sX10_readLine_123 rfl ?_
          rcases hpf with ⟨rfl, hp⟩ | ⟨rfl, hp⟩
          · -- PREFIX
            refine sX10_readLine_125 (fun _ => ?_) (fun y => absurd y (by decide))
            refine sX10_readLine_142 ?_
            refine sX10_readLine_143 ?_
            refine sX10_readLine_145 rfl ?_
            refine sX10_readLine_147 (fun _ => ?_) (fun y => absurd y (by decide))
            refine sX10_readLine_155 rfl ?_
            refine jX10_readLine_157 (Nat.le_of_ble_eq_true rfl) (by assumption) ?_
            refine c_next hK tj3 tT3 hts3.2.2.1 (fun J4 o4 tj4 ts4 => ?_)
            have e2 : lkS C m a = 2 := lkS_2.mpr hp
            refine expr J4 _ (by omega) (fun r hr => by rw [o4 r hr, o3 r hr]) tj4 ?_ (fun z hz => by simp only [List.mem_cons, List.not_mem_nil, or_false] at hz; rcases hz with rfl | rfl | rfl | rfl | rfl | rfl | rfl | rfl <;> exact xlk_mem rfl)
            rw [show lkX C m a = nx C m (nx C m a) from if_pos hp]
            exact ts4
          · refine sX10_readLine_125 (fun y => absurd rfl y) (fun _ => ?_)
            refine sX10_readLine_128 rfl ?_
            refine jX10_readLine_130 (by assumption) ?_
            rw [hts3.2.1]
            refine nX10_readLine_133 ?_
            refine nX10_readLine_135 (by omega) (by decide) (fun y => ?_) (fun y => ?_)
            · -- MEASURE
              refine sX10_readLine_142 ?_
              refine sX10_readLine_143 ?_
              refine sX10_readLine_145 rfl ?_
              refine sX10_readLine_147 (fun v => absurd rfl v) (fun _ => ?_)
              refine sX10_readLine_150 rfl ?_
              refine sX10_readLine_152 (fun _ => ?_) (fun v => absurd rfl v)
              refine expr J3 _ (fun v => y (lkS_0.mp v).2) o3 tj3 ?_ (fun z hz => by simp only [List.mem_cons, List.not_mem_nil, or_false] at hz; rcases hz with rfl | rfl | rfl | rfl | rfl | rfl | rfl | rfl <;> exact xlk_mem rfl)
              rw [show lkX C m a = nx C m a from if_neg hp]
              exact hts3
            · -- BASE
              have e0 : lkS C m a = 0 := lkS_0.mpr ⟨hp, y⟩
              refine sX10_readLine_138 ?_
              refine sX10_readLine_139 ?_
              refine sX10_readLine_143 ?_
              refine sX10_readLine_145 rfl ?_
              refine sX10_readLine_147 (fun v => absurd rfl v) (fun _ => ?_)
              refine sX10_readLine_150 rfl ?_
              refine sX10_readLine_152 (fun v => absurd v (by decide)) (fun _ => ?_)
              refine sX10_readLine_155 rfl ?_
              refine jX10_readLine_157 (Nat.le_of_ble_eq_true rfl) (by assumption) ?_
              refine c_next hK tj3 tT3 hts3.2.2.1 (fun J4 o4 tj4 ts4 => ?_)
              have hts4 : TS J4 (x + 2 + 14) C m (nx C m (nx C m a)) := ts4
              have kb4 := (tkK_big C m (nx C m (nx C m a))).1
              have nl2 : nx C m (nx C m a) ≤ m := nx_le hC nl1
              have ng2 := nx_a C m (nx C m a)
              have o34 : ∀ r, r ≠ x + 2 + 14 → J4 r = J2 r := fun r hr => by rw [o4 r hr, o3 r hr]
              have f4 : fL x J J4 := fL_t f2 (fL_1 (by omega) (by omega) o34)
              have B4 : WB J4 (x + 2) c D T := WB_x (fun r a1 a2 a3 => o34 r (by omega)) (by rw [o34 _ (by omega)]) (by rw [o34 _ (by omega)]) B2
              refine sX10_readLine_160 rfl ?_
              refine sX10_readLine_162 (fun _ => ?_) (fun v => absurd v (by decide))
              refine sX10_readLine_182 ?_
              refine sX10_readLine_183 ?_
              refine sX10_readLine_187 ?_
              refine sX10_readLine_189 rfl ?_
              refine sX10_readLine_191 (fun v => absurd v (by decide)) (fun _ => ?_)
              refine sX10_readLine_194 rfl ?_
              refine jX10_readLine_196 (by assumption) ?_
              rw [hts4.2.1]
              refine nX10_readLine_199 (by omega) (fun v => ?_) (fun v => ?_)
              · refine sX10_readLine_215 rfl ?_
                refine sX10_readLine_217 (fun u => absurd u (by decide)) (fun _ => ?_)
                refine nX10_readLine_220 ?_
                refine sX10_readLine_221 ?_
                have hce := DB_ce hD
                exact good J4 [] (nx C m (nx C m a)) 0 _ e0 (Or.inl ⟨e0, v, rfl, rfl⟩) f4 B4 trivial (by rw [o34 _ (by omega)]; exact sz2) (by show 3 * (eO (fce D) c + 0) ≤ _; omega) (fun z hz => by simp only [List.mem_cons, List.not_mem_nil, or_false] at hz; rcases hz with rfl | rfl | rfl | rfl | rfl <;> exact xlk_mem rfl)
              · exact syn J4 (nx C m (nx C m a)) _ (by omega) nl2 hts4 f4 B4 ⟨z0, Or.inr ⟨z2, Or.inl ⟨e0, v, rfl, rfl⟩⟩⟩ (fun z hz => by simp only [List.mem_cons, List.not_mem_nil, or_false] at hz; rcases hz with rfl | rfl | rfl <;> exact xlk_mem rfl)
        refine sX10_readLine_59 ?_
        refine sX10_readLine_60 ?_
        refine sX10_readLine_64 ?_
        refine sX10_readLine_66 rfl ?_
        refine sX10_readLine_68 (fun y => absurd y (by decide)) (fun _ => ?_)
        refine sX10_readLine_71 rfl ?_
        refine sX10_readLine_73 rfl ?_
        refine jX10_readLine_75 (by assumption) ?_
        rw [ts.2.2.1]
        refine jX10_readLine_78 (Nat.le_of_ble_eq_true rfl) (by assumption) ?_
        refine c_byteAt8 hK tj (by omega) ?_
        refine nX10_readLine_81 ?_
        refine sX10_readLine_83 (fun y => ?_) (fun y => ?_)
        · rw [sb_eq (hC.2.2 _) (by decide)] at y
          refine sX10_readLine_90 ?_
          exact name2 0 _ (Or.inr ⟨rfl, y⟩) (fun z hz => by simp only [List.mem_cons, List.not_mem_nil, or_false] at hz; rcases hz with rfl | rfl | rfl | rfl | rfl | rfl | rfl <;> exact xlk_mem rfl)
        · rw [sb_eq (hC.2.2 _) (by decide)] at y
          refine sX10_readLine_86 ?_
          refine sX10_readLine_87 ?_
          exact name2 1 _ (Or.inl ⟨rfl, y⟩) (fun z hz => by simp only [List.mem_cons, List.not_mem_nil, or_false] at hz; rcases hz with rfl | rfl | rfl | rfl | rfl | rfl | rfl <;> exact xlk_mem rfl)
    · -- nothing
      refine nX10_readLine_31 ?_
      exact sX10_readLine_32 (kO J1 c D (Or.inl ⟨z0, rfl, rfl⟩) f1 B1 hD (by omega))
  obtain ⟨t1, ⟨p1, p3, p4, -⟩, -⟩ := id hM
  obtain ⟨hW, t13, ⟨q0, -⟩, -, -, hK⟩ := id hQ
  obtain ⟨tw, ⟨w0, -⟩, wt, -⟩ := CW_f hW
  have q0' : xP h (x + 15) 0 = some (x + 2 + 14) := by rw [fxT_P (by omega)] at q0; exact q0
  have t13' : (xT h (x + 15)).1 = 6 := t13
  have t14 : (xT h (x + 2 + 14)).1 = 8 := hK.1
  refine sX10_readLine_0 rfl ?_
  refine jX10_readLine_1 (by assumption) (by assumption) ?_
  refine jX10_readLine_4 (by assumption) (by assumption) ?_
  refine sX10_readLine_7 ?_
  refine sX10_readLine_9 rfl ?_
  refine sX10_readLine_11 rfl ?_
  refine jX10_readLine_12 (by assumption) (by assumption) ?_
  refine jX10_readLine_15 (by assumption) (by assumption) ?_
  refine sX10_readLine_18 rfl ?_
  refine sX10_readLine_19 rfl ?_
  refine jX10_readLine_20 (Nat.le_of_ble_eq_true rfl) (by assumption) ?_
  refine c_begin8 (C := C) (a := s) t14 wt hm hsm hC hbC (fun J1 o1 tj ts => ?_)
  rw [hae] at ts
  exact first J1 _ _ rfl o1 tj ts (fun z hz => by simp only [List.mem_cons, List.not_mem_nil, or_false] at hz; rcases hz with rfl | rfl | rfl | rfl <;> exact xlk_mem rfl)
end CLine
