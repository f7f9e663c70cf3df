/-- rows that a line leaves as they were -/
def fN (K K' : Nat → Nat → Int32) : Prop := (∀ r, r = 4 ∨ r = 12 ∨ r = 13 ∨ r = 14 → K' r = K r) ∧ ∀ j, j ≤ 20 → K' 0 j = K 0 j
theorem fN_t {K K1 K2 : Nat → Nat → Int32} (a : fN K K1) (c : fN K1 K2) : fN K K2 := ⟨fun r hr => (c.1 r hr).trans (a.1 r hr), fun j hj => (c.2 j hj).trans (a.2 j hj)⟩
/-- rows within a line -/
def fA (K K' : Nat → Nat → Int32) : Prop := (∀ r, 4 ≤ r → r < 15 → K' r = K r) ∧ ∀ j, j ≤ 20 ∨ 33 ≤ j → K' 0 j = K 0 j
theorem fA_t {K K1 K2 : Nat → Nat → Int32} (a : fA K K1) (c : fA K1 K2) : fA K K2 := ⟨fun r h1 h2 => (c.1 r h1 h2).trans (a.1 r h1 h2), fun j hj => (c.2 j hj).trans (a.2 j hj)⟩
theorem fA_o {K K' : Nat → Nat → Int32} (o : ro K K') : fA K K' := ⟨fun r h1 _ => o.1 r (by omega), fun j hj => o.2 j (by omega) (by omega) (by omega)⟩
theorem fA_E {K K' : Nat → Nat → Int32} (o : fE K K') : fA K K' := ⟨fun r h1 h2 => o.1 r (by omega) (by omega) (by omega) (by omega) (by omega), fun j hj => o.2 j (by omega)⟩
theorem fA_u {K : Nat → Nat → Int32} {i : Nat} {v : Int32} (h : 21 ≤ i ∧ i < 33) : fA K (xup2 K 0 i v) := ⟨fun r h1 _ => xup2_r (by omega), fun j hj => xup2_n (by omega)⟩
theorem fA_r (K : Nat → Nat → Int32) : fA K K := ⟨fun _ _ _ => rfl, fun _ _ => rfl⟩
theorem fA_N {K K' : Nat → Nat → Int32} (o : fA K K') : fN K K' := ⟨fun r hr => o.1 r (by omega) (by omega), fun j hj => o.2 j (by omega)⟩
theorem RB_push {K K' : Nat → Nat → Int32} {c m a : Nat} {C : Nat → Nat} {D D1 : Nat → Df} {L : List St} {e : Nat} (hD : DB c D) (hr : D1 = va_up D c (lRec C m a c D L e)) (hB : RB K c D) (o2 : ∀ r, r = 5 ∨ r = 6 ∨ r = 8 ∨ r = 9 ∨ r = 10 → ∀ i, i ≠ c → K' r i = K r i) (o3 : ∀ i, i < 24 * c → K' 7 i = K 7 i) (o4 : ∀ p, p < eO (ftt D) c → K' 11 p = K 11 p) (e5 : K' 5 c = nI (lkS C m a)) (e6 : K' 6 c = nI (nb (fso D) c)) (e8 : K' 8 c = nI (tkT C m a - a)) (e7 : ∀ i, i < tkT C m a - a → K' 7 (24 * c + i) = nI (C (a + i))) (e9 : K' 9 c = nI (eO (ftt D) c)) (e10 : K' 10 c = nI (if lkS C m a = 0 then eO (ftt D) c else eO (ftt D) c + (m - lkQ C m a))) (e11 : lkS C m a ≠ 0 → ∀ p, eO (ftt D) c ≤ p → p < eO (ftt D) c + (m - lkQ C m a) → K' 11 p = nI (C (p - eO (ftt D) c + lkQ C m a))) (hq : eO (ftt D) c ≤ lkQ C m a) : RB K' (c + 1) D1 := by
  have hpre : ∀ k, k < c → D1 k = D k := fun k hk => by rw [hr]; exact vup_n (by omega)
  obtain ⟨r1, r2, r3, r4, r5, r6, r7, r8, r9, r10, r11, r12, r13, r14, r15⟩ := rec_f hr
  intro k hk
  rcases Nat.eq_or_lt_of_le (Nat.le_of_lt_succ hk) with z | z
  · subst z
    rw [r1, r2, r4, r5, r8, r10, r11, r12]
    refine ⟨e5, e6, e8, e7, e9, e10, fun y p h1 h2 => ?_⟩
    rw [if_neg y] at h2
    rw [e11 y p h1 h2]
    congr 2
    omega
  · obtain ⟨b1, b2, b3, b4, b5, b6, b7⟩ := hB k z
    obtain ⟨g1, g2, g3, g4, g5, g6, g7, g8, g9, g10, g11, g12, g13, g14, g15⟩ := f_c (hpre k z)
    have hln := (hD.2.1 k z).2.1.2
    have hm := eO_mono (f := ftt D) (fun j hj => (hD.2.2.1 j hj).2.1) k z
    rw [g1, g2, g4, g5, g8, g10, g11, g12, o2 5 (by omega) k (by omega), o2 6 (by omega) k (by omega), o2 8 (by omega) k (by omega), o2 9 (by omega) k (by omega), o2 10 (by omega) k (by omega)]
    exact ⟨b1, b2, b3, fun i hi => by rw [o3 _ (by omega)]; exact b4 i hi, b5, b6, fun y p h1 h2 => by rw [o4 p (by omega)]; exact b7 y p h1 h2⟩
section RLine2
variable {g : xG} {l : Launch} {h : xH} {b : Nat} {K : Nat → Nat → Int32} {N : Nat → Nat} {S : Nat → Vl} {Q : Option Value → xH → Prop} {C : Nat → Nat} {m n c B fr s c1 : Nat} {D D1 : Nat → Df} {res : Option (Nat × Nat)}
theorem c_line (hS : RS h b) (hX : RX K N S) (hB : K 0 0 = nI B) (hB0 : 16 ≤ B) (hB2 : B ≤ 512) (hD : DB c D) (hRB : RB K c D) (hC : tOk C m) (hm : m ≤ 10240) (hn : n + fr = m) (hn4 : n ≤ 4000) (h20 : K 0 20 = 0) (h4 : ∀ p, p < n → K 4 p = nI (C (p + fr))) (hfs : fr ≤ s) (hsm : s ≤ m) (hte : eO (fte D) c ≤ s) (h42 : K 0 42 = nI c) (h43 : K 0 43 = nI (nb (fso D) c)) (h44 : K 0 44 = nI (eO (ftt D) c)) (h45 : K 0 45 = nI 0)
    (hL : (∃ f p, LB C fr m (tkF C m s) c D f p ∧ res = some (f, p) ∧ c1 = c ∧ D1 = D) ∨ (LO C m (tkF C m s) c D c1 D1 ∧ res = none))
    (k : ∀ K', fN K K' → RX K' N S → RB K' c1 D1 → K' 0 42 = nI c1 → K' 0 43 = nI (nb (fso D1) c1) → K' 0 44 = nI (eO (ftt D1) c1) → (res = none → K' 0 45 = nI 0) → (∀ f p, res = some (f, p) → f ≠ 0 ∧ f < 100 ∧ K' 0 45 = nI f ∧ K' 0 46 = nI p) → Q none (xB h b K')) : ac g l mX11_line [.ref b, .int (nI (s - fr)), .int (nI n)] (xB h b K) Q := by
  refine ac_of (by decide) (Nat.le_of_ble_eq_true rfl) ?_
  have hsa : s ≤ tkF C m s := tkF_ge _ _ _
  have ham : tkF C m s ≤ m := tkF_le hsm
  generalize hae : tkF C m s = a at *
  have hc := hD.1
  have htt := DB_tt hD
  -- a FAULT
  have kf : ∀ (K1 : Nat → Nat → Int32) (f p : Nat), fA K K1 → RX K1 N S → f ≠ 0 → f < 100 → res = some (f, p) ∧ c1 = c ∧ D1 = D → Q none (xB h b (xup2 (xup2 K1 0 45 (nI f)) 0 46 (nI p))) := by
    intro K1 f p fa rx f0 f1 hr
    obtain ⟨r1, r2, r3⟩ := hr
    subst r1; subst r2; subst r3
    have o : ∀ r, r ≠ 0 → xup2 (xup2 K1 0 45 (nI f)) 0 46 (nI p) r = K1 r := fun r hr => by rw [xup2_r hr, xup2_r hr]
    have o0 : ∀ j, j ≠ 45 → j ≠ 46 → xup2 (xup2 K1 0 45 (nI f)) 0 46 (nI p) 0 j = K1 0 j := fun j a1 a2 => by rw [xup2_n a2, xup2_n a1]
    refine k _ ⟨fun r hr => by rw [o r (by omega)]; exact (fA_N fa).1 r hr, fun j hj => by rw [o0 j (by omega) (by omega)]; exact (fA_N fa).2 j hj⟩ (RX_row0 (RX_row0 rx)) (RB_x (fun r a1 a2 => by rw [o r (by omega)]; exact fa.1 r (by omega) (by omega)) hRB) ?_ ?_ ?_ (fun y => by cases y) (fun f' p' y => ?_)
    · rw [o0 42 (by decide) (by decide), fa.2 42 (by decide)]; exact h42
    · rw [o0 43 (by decide) (by decide), fa.2 43 (by decide)]; exact h43
    · rw [o0 44 (by decide) (by decide), fa.2 44 (by decide)]; exact h44
    · have y2 := Option.some.inj y
      have e1 : f = f' := congrArg Prod.fst y2
      have e2 : p = p' := congrArg Prod.snd y2
      subst e1; subst e2
      exact ⟨f0, f1, by rw [xup2_n (by decide), xup2_s], by rw [xup2_s]⟩
  have rt : ∀ K1 : Nat → Nat → Int32, fA K K1 → K1 0 21 = nI n → RTt K1 C m fr n := fun K1 fa e21 => ⟨hC, hn, e21, by rw [fa.2 20 (by decide)]; exact h20, hn4, fun p hp => by rw [fa.1 4 (by decide) (by decide)]; exact h4 p hp⟩
  refine sX11_line_0 rfl ?_
  refine sX11_line_1 rfl ?_
  refine tX11_line_2 hS ?_
  refine sX11_line_5 rfl ?_
  refine sX11_line_6 rfl ?_
  refine tX11_line_7 hS (Nat.le_of_ble_eq_true rfl) ?_
  have fa0 : fA K (xup2 K 0 21 (nI n)) := fA_u (by decide)
  refine c_lex (p := s - fr) hS (RTt_RT (rt _ fa0 xup2_s)) (by omega) (Nat.zero_le _) (fun K1 o1 t1 x1 => ?_)
  rw [show s - fr + fr = s by omega, hae] at x1
  have fa1 : fA K K1 := fA_t fa0 (fA_o o1)
  have rx1 : RX K1 N S := RX_ro o1 (RX_row0 hX)
  have e21 : K1 0 21 = nI n := by rw [o1.2 21 (by decide) (by decide) (by decide), xup2_s]
  obtain ⟨x1a, x1b, x1c, x1d, x1e⟩ := id x1
  have kb := (tkK_big C m a).1
  refine sX11_line_10 rfl ?_
  refine tX11_line_11 hS ?_
  rw [x1e]
  refine nX11_line_14 (by split <;> omega) (fun z0 => ?_) (fun z0 => ?_)
  · -- a token
    have z0' : tkK C m a ≠ 0 := fun y => z0 (by rw [if_pos (by omega)]; exact y)
    have ham' : a < m := tkK_lt z0'
    refine sX11_line_18 rfl ?_
    refine tX11_line_19 hS ?_
    rw [x1e]
    refine nX11_line_22 ?_
    refine nX11_line_23 (by split <;> omega) (by decide) (fun z2 => ?_) (fun z2 => ?_)
    · -- a NAME
      have z2' : tkK C m a = 2 := by
        by_cases y : tkK C m a ≤ 3
        · rw [if_pos y] at z2; exact z2
        · rw [if_neg y] at z2; omega
      obtain ⟨-, -, -, hn24⟩ := kN z2'
      have tT1 := tkT_gt (C := C) ham'
      have tT2 := tkT_le hC ham
      have hn24' : tkT C m a - a ≤ 24 := by rw [(kN z2').2.2.1]; exact hn24
      obtain ⟨q1, q2⟩ := lkQ_le hC ham
      have qe : lkQ C m a ≥ tkT C m a := by unfold lkQ; split <;> omega
      have nl1 : nx C m a ≤ m := nx_le hC ham
      have ng1 := nx_gt (C := C) ham'
      have hL2 : (lkS C m a = 0 ∧ tkK C m (nx C m (nx C m a)) ≠ 0 ∧ res = some (1, nx C m (nx C m a) - fr) ∧ c1 = c ∧ D1 = D) ∨ (lkS C m a ≠ 0 ∧ ∃ L e, PM0 C m (lkX C m a) L false e ∧ res = some (1, e - fr) ∧ c1 = c ∧ D1 = D) ∨ (lkS C m a ≠ 0 ∧ ∃ L e, PM0 C m (lkX C m a) L true e ∧ tkK C m e ≠ 0 ∧ res = some (1, e - fr) ∧ c1 = c ∧ D1 = D) ∨ ∃ L e, lGood C m a L e ∧ ((lTw C m a c D ∧ res = some (2, a - fr) ∧ c1 = c ∧ D1 = D) ∨ (¬ lTw C m a c D ∧ lMu C m a c D ∧ res = some (3, a - fr) ∧ c1 = c ∧ D1 = D) ∨ (¬ lTw C m a c D ∧ ¬ lMu C m a c D ∧ c1 = c + 1 ∧ D1 = va_up D c (lRec C m a c D L e) ∧ res = none)) := by
        rcases hL with ⟨f, p, ⟨-, lb⟩, r1, r2, r3⟩ | ⟨lo, r1⟩
        · rcases lb with ⟨y, -⟩ | ⟨-, lb⟩
          · exact absurd z2' y
          · rcases lb with ⟨y1, y2, rfl, rfl⟩ | ⟨y1, L, e, y2, rfl, rfl⟩ | ⟨y1, L, e, y2, y3, rfl, rfl⟩ | ⟨⟨L, e, y1⟩, y2, rfl, rfl⟩ | ⟨⟨L, e, y1⟩, y2, y3, rfl, rfl⟩
            · exact Or.inl ⟨y1, y2, r1, r2, r3⟩
            · exact Or.inr (Or.inl ⟨y1, L, e, y2, r1, r2, r3⟩)
            · exact Or.inr (Or.inr (Or.inl ⟨y1, L, e, y2, y3, r1, r2, r3⟩))
            · exact Or.inr (Or.inr (Or.inr ⟨L, e, y1, Or.inl ⟨y2, r1, r2, r3⟩⟩))
            · exact Or.inr (Or.inr (Or.inr ⟨L, e, y1, Or.inr (Or.inl ⟨y2, y3, r1, r2, r3⟩)⟩))
        · rcases lo with ⟨y, -⟩ | ⟨-, L, e, y1, y2, y3, y4, y5, y6⟩
          · omega
          · exact Or.inr (Or.inr (Or.inr ⟨L, e, y1, Or.inr (Or.inr ⟨y2, y3, y5, y6, r1⟩)⟩))
      have hs2 := lkS_le (C := C) (m := m) (a := a)
      -- behind all tokens of the line
      have good : ∀ (K2 : Nat → Nat → Int32) (sv : Nat) (bs : Int32) (lv0 : List (Nat × Value)), lkS C m a = sv → (bs = 1 ∧ sv = 0 ∨ bs = 0 ∧ sv ≠ 0) → fA K K2 → RX K2 N S → K2 0 21 = nI n → (∃ L e, lGood C m a L e ∧ ((lTw C m a c D ∧ res = some (2, a - fr) ∧ c1 = c ∧ D1 = D) ∨ (¬ lTw C m a c D ∧ lMu C m a c D ∧ res = some (3, a - fr) ∧ c1 = c ∧ D1 = D) ∨ (¬ lTw C m a c D ∧ ¬ lMu C m a c D ∧ c1 = c + 1 ∧ D1 = va_up D c (lRec C m a c D L e) ∧ res = none))) → (∀ z ∈ ([(0, .ref b), (3, .int (nI (a - fr))), (4, .int (nI (tkT C m a - fr))), (6, .int (nI (lkQ C m a - fr))), (7, .int bs)] : List (Nat × Value)), z ∈ lv0) → aw g l mX11_line 196 lv0 [.int (nI sv)] (xB h b K2) Q := by
        intro K2 sv bs lv0 hsv hbs fa2 rx2 e212 hg hlv
        refine aw_lv hlv ?_
        subst hsv
        obtain ⟨L, e, -, hg2⟩ := hg
        have rt2 := rt K2 fa2 e212
        have rb2 : RB K2 c D := RB_x (fun r a1 a2 => fa2.1 r (by omega) (by omega)) hRB
        have e42 : K2 0 42 = nI c := by rw [fa2.2 42 (by decide)]; exact h42
        have e43 : K2 0 43 = nI (nb (fso D) c) := by rw [fa2.2 43 (by decide)]; exact h43
        have e44 : K2 0 44 = nI (eO (ftt D) c) := by rw [fa2.2 44 (by decide)]; exact h44
        have hnb := hD.2.2.2.1
        refine sX11_line_196 ?_
        refine sX11_line_198 rfl ?_
        refine sX11_line_199 rfl ?_
        refine sX11_line_200 rfl ?_
        refine sX11_line_202 rfl ?_
        refine tX11_line_204 hS (Nat.le_of_ble_eq_true rfl) ?_
        refine c_isTwice (s := lkS C m a) hS (RTt_RT rt2) (RB_M hD rb2) e42 (by omega) (by omega) tT2 hs2 (fun y => ?_) (fun y => ?_)
        · have rs : res = some (2, a - fr) ∧ c1 = c ∧ D1 = D := by
            rcases hg2 with ⟨-, v⟩ | ⟨v, -⟩ | ⟨v, -⟩
            · exact v
            · exact absurd y v
            · exact absurd y v
          refine sX11_line_207 (fun v => absurd v (by decide)) (fun _ => ?_)
          refine sX11_line_210 rfl ?_
          refine nX11_line_211 ?_
          refine sX11_line_212 rfl ?_
          refine tX11_line_213 hS (Nat.le_of_ble_eq_true rfl) ?_
          refine c_lineFails hS ?_
          refine sX11_line_216 ?_
          exact sX11_line_262 (kf K2 2 (a - fr) fa2 rx2 (by decide) (by decide) rs)
        · have nt : ¬ lTw C m a c D := fun v => v y
          have hg3 : (lMu C m a c D ∧ res = some (3, a - fr) ∧ c1 = c ∧ D1 = D) ∨ (¬ lMu C m a c D ∧ c1 = c + 1 ∧ D1 = va_up D c (lRec C m a c D L e) ∧ res = none) := by
            rcases hg2 with ⟨v, -⟩ | ⟨-, v⟩ | ⟨-, v⟩
            · exact absurd v nt
            · exact Or.inl v
            · exact Or.inr v
          have much : ∀ lv1 : List (Nat × Value), lMu C m a c D → (∀ z ∈ ([(0, .ref b), (3, .int (nI (a - fr)))] : List (Nat × Value)), z ∈ lv1) → aw g l mX11_line 242 lv1 [] (xB h b K2) Q := by
            intro lv1 hmu hlv1
            refine aw_lv hlv1 ?_
            have rs : res = some (3, a - fr) ∧ c1 = c ∧ D1 = D := by
              rcases hg3 with ⟨-, v⟩ | ⟨v, -⟩
              · exact v
              · exact absurd hmu v
            refine sX11_line_242 rfl ?_
            refine nX11_line_243 ?_
            refine sX11_line_244 rfl ?_
            refine tX11_line_245 hS (Nat.le_of_ble_eq_true rfl) ?_
            refine c_lineFails hS ?_
            refine sX11_line_248 ?_
            exact sX11_line_262 (kf K2 3 (a - fr) fa2 rx2 (by decide) (by decide) rs)
          have more : ∀ lv1 : List (Nat × Value), ¬ lMu C m a c D → (∀ z ∈ ([(0, .ref b), (3, .int (nI (a - fr))), (4, .int (nI (tkT C m a - fr))), (6, .int (nI (lkQ C m a - fr))), (8, .int (nI (lkS C m a)))] : List (Nat × Value)), z ∈ lv1) → aw g l mX11_line 251 lv1 [] (xB h b K2) Q := by
            intro lv1 hmu hlv1
            refine aw_lv hlv1 ?_
            obtain ⟨v1, v2, v3⟩ : c1 = c + 1 ∧ D1 = va_up D c (lRec C m a c D L e) ∧ res = none := by
              rcases hg3 with ⟨v, -⟩ | ⟨-, v⟩
              · exact absurd v hmu
              · exact v
            have hc1 : c < 100 := by unfold lMu at hmu; omega
            refine sX11_line_251 rfl ?_
            refine sX11_line_252 rfl ?_
            refine sX11_line_254 rfl ?_
            refine sX11_line_255 rfl ?_
            refine sX11_line_257 rfl ?_
            refine tX11_line_259 hS (Nat.le_of_ble_eq_true rfl) ?_
            refine c_comes hS rt2 e42 hc1 e43 e44 (by omega) (by omega) hn24' tT2 (by omega) q2 (by omega) hs2 (fun K3 w1 w2 w3 w4 w5 w6 w7 w8 w9 w10 w11 w12 w13 w14 w15 => ?_)
            obtain ⟨r1, r2, r3, r4, r5, r6, r7, r8, r9, r10, r11, r12, r13, r14, r15⟩ := rec_f v2
            subst v1
            refine sX11_line_262 (k K3 ⟨fun r hr => by rw [w1 r (by omega) (by omega)]; exact (fA_N fa2).1 r hr, fun j hj => by rw [w5 j (by omega) (by omega) (by omega)]; exact (fA_N fa2).2 j hj⟩ (RX_row (w1 1 (by decide) (by omega)) (w1 2 (by decide) (by omega)) (w1 3 (by decide) (by omega)) rx2) (RB_push hD v2 rb2 w2 w3 w4 w6 w7 w8 w9 w10 w11 w12 (by omega)) w13 ?_ ?_ (fun _ => by rw [w5 45 (by decide) (by decide) (by decide), fa2.2 45 (by decide)]; exact h45) (fun f p y => by rw [v3] at y; cases y))
            · show _ = nI (nb (fso D1) c + (if fso D1 c = 0 then 1 else 0))
              rw [r1, nb_c (c := c) (so := fso D) (fun j hj => (f_c (show D1 j = D j by rw [v2]; exact vup_n (by omega))).1) (Nat.le_refl _)]
              exact w14
            · show _ = nI (ftt D1 c)
              rw [r11]; exact w15
          refine sX11_line_207 (fun _ => ?_) (fun v => absurd rfl v)
          refine sX11_line_219 rfl ?_
          refine tX11_line_220 hS ?_
          rw [e42]
          refine nX11_line_223 ?_
          refine nX11_line_225 (by omega) (by decide) (fun v => ?_) (fun v => ?_)
          · exact much _ (Or.inl (by omega)) (fun z hz => by simp only [List.mem_cons, List.not_mem_nil, or_false] at hz; rcases hz with rfl | rfl <;> exact xlk_mem rfl)
          · refine sX11_line_228 rfl ?_
            rcases hbs with ⟨rfl, hb0⟩ | ⟨rfl, hb0⟩
            · refine sX11_line_230 (fun u => absurd u (by decide)) (fun _ => ?_)
              refine sX11_line_233 rfl ?_
              refine tX11_line_234 hS ?_
              rw [e43]
              refine nX11_line_237 ?_
              refine nX11_line_239 (by omega) (by decide) (fun u => ?_) (fun u => ?_)
              · exact more _ (by unfold lMu; omega) (fun z hz => by simp only [List.mem_cons, List.not_mem_nil, or_false] at hz; rcases hz with rfl | rfl | rfl | rfl | rfl <;> exact xlk_mem rfl)
              · exact much _ (Or.inr ⟨hb0, by omega⟩) (fun z hz => by simp only [List.mem_cons, List.not_mem_nil, or_false] at hz; rcases hz with rfl | rfl <;> exact xlk_mem rfl)
            · refine sX11_line_230 (fun _ => ?_) (fun u => absurd rfl u)
              exact more _ (by unfold lMu; omega) (fun z hz => by simp only [List.mem_cons, List.not_mem_nil, or_false] at hz; rcases hz with rfl | rfl | rfl | rfl | rfl <;> exact xlk_mem rfl)
      -- a BASE
      have sBase : ∀ (K2 : Nat → Nat → Int32) (lv0 : List (Nat × Value)), lkS C m a = 0 → fA K K2 → RX K2 N S → K2 0 21 = nI n → RLx K2 C m fr 0 (nx C m a) → (∀ z ∈ ([(0, .ref b), (3, .int (nI (a - fr))), (4, .int (nI (tkT C m a - fr))), (5, .int 0), (6, .int (nI (lkQ C m a - fr))), (7, .int 1)] : List (Nat × Value)), z ∈ lv0) → aw g l mX11_line 108 lv0 [] (xB h b K2) Q := by
        intro K2 lv0 hs0 fa2 rx2 e212 x2 hlv
        refine aw_lv hlv ?_
        obtain ⟨y1, y2, y3, y4, y5⟩ := id x2
        have nl2 : nx C m (nx C m a) ≤ m := nx_le hC nl1
        have tT3 := tkT_le hC nl1
        have tg := tkT_ge C m (nx C m a)
        refine sX11_line_108 rfl ?_
        refine sX11_line_110 (fun u => absurd u (by decide)) (fun _ => ?_)
        refine sX11_line_113 rfl ?_
        refine sX11_line_114 rfl ?_
        refine tX11_line_115 hS ?_
        rw [y4]
        refine tX11_line_118 hS (Nat.le_of_ble_eq_true rfl) ?_
        refine c_lex (p := tkT C m (nx C m a) - fr) hS (RTt_RT (rt K2 fa2 e212)) (by omega) (Nat.zero_le _) (fun K3 o3 t3 x3 => ?_)
        rw [show tkT C m (nx C m a) - fr + fr = tkT C m (nx C m a) by omega] at x3
        have x3' : RLx K3 C m fr 0 (nx C m (nx C m a)) := x3
        obtain ⟨w1, w2, w3, w4, w5⟩ := id x3'
        have kb2 := (tkK_big C m (nx C m (nx C m a))).1
        have fa3 := fA_t fa2 (fA_o o3)
        have rx3 := RX_ro o3 rx2
        refine sX11_line_121 ?_
        refine sX11_line_160 rfl ?_
        refine tX11_line_161 hS ?_
        rw [w5]
        refine nX11_line_164 (by split <;> omega) (fun u => ?_) (fun u => ?_)
        · have u' : tkK C m (nx C m (nx C m a)) = 0 := by
            by_cases y : tkK C m (nx C m (nx C m a)) ≤ 3
            · rw [if_pos y] at u; exact u
            · rw [if_neg y] at u; omega
          refine sX11_line_177 rfl ?_
          refine sX11_line_179 (fun v => absurd v (by decide)) (fun _ => ?_)
          refine nX11_line_182 ?_
          refine sX11_line_183 ?_
          refine good K3 0 1 _ hs0 (Or.inl ⟨rfl, rfl⟩) fa3 rx3 (by rw [o3.2 21 (by decide) (by decide) (by decide)]; exact e212) ?_ (fun z hz => by simp only [List.mem_cons, List.not_mem_nil, or_false] at hz; rcases hz with rfl | rfl | rfl | rfl | rfl <;> exact xlk_mem rfl)
          rcases hL2 with ⟨-, v, -⟩ | ⟨v, -⟩ | ⟨v, -⟩ | v
          · exact absurd u' v
          · exact absurd hs0 v
          · exact absurd hs0 v
          · exact v
        · have u' : tkK C m (nx C m (nx C m a)) ≠ 0 := fun y => u (by rw [if_pos (by omega)]; exact y)
          have rs : res = some (1, nx C m (nx C m a) - fr) ∧ c1 = c ∧ D1 = D := by
            rcases hL2 with ⟨-, -, v⟩ | ⟨v, -⟩ | ⟨v, -⟩ | ⟨L, e, v, -⟩
            · exact v
            · exact absurd hs0 v
            · exact absurd hs0 v
            · rcases v with ⟨-, v, -⟩ | ⟨v, -⟩
              · exact absurd v u'
              · exact absurd hs0 v
          refine sX11_line_167 rfl ?_
          refine nX11_line_168 ?_
          refine sX11_line_169 rfl ?_
          refine tX11_line_170 hS ?_
          rw [w3]
          refine tX11_line_173 hS (Nat.le_of_ble_eq_true rfl) ?_
          refine c_lineFails hS ?_
          exact sX11_line_176 (kf K3 1 _ fa3 rx3 (by decide) (by decide) rs)
      -- PREFIX or MEASURE
      have sExpr : ∀ (K2 : Nat → Nat → Int32) (pf : Int32) (lv0 : List (Nat × Value)), lkS C m a ≠ 0 → (pf = 1 ∧ lkS C m a = 2 ∨ pf = 0 ∧ lkS C m a = 1) → fA K K2 → RX K2 N S → K2 0 21 = nI n → (∀ z ∈ ([(0, .ref b), (3, .int (nI (a - fr))), (4, .int (nI (tkT C m a - fr))), (5, .int pf), (6, .int (nI (lkQ C m a - fr))), (7, .int 0)] : List (Nat × Value)), z ∈ lv0) → aw g l mX11_line 108 lv0 [] (xB h b K2) Q := by
        intro K2 pf lv0 hs0 hpf fa2 rx2 e212 hlv
        refine aw_lv hlv ?_
        obtain ⟨hx1, hx2⟩ := lkX_gt hC ham'
        refine sX11_line_108 rfl ?_
        refine sX11_line_110 (fun _ => ?_) (fun u => absurd rfl u)
        refine sX11_line_124 rfl ?_
        refine sX11_line_125 ?_
        refine tX11_line_126 hS (by first | decide | assumption) ?_
        refine sX11_line_129 rfl ?_
        refine sX11_line_130 rfl ?_
        refine tX11_line_132 hS (Nat.le_of_ble_eq_true rfl) ?_
        obtain ⟨K3, hK3⟩ : ∃ K3, K3 = xup2 K2 0 27 0 := ⟨_, rfl⟩
        have fa3 : fA K K3 := by rw [hK3]; exact fA_t fa2 (fA_u (by decide))
        have rx3 : RX K3 N S := by rw [hK3]; exact RX_row0 rx2
        have e213 : K3 0 21 = nI n := by rw [hK3, xup2_n (by decide)]; exact e212
        have e273 : K3 0 27 = 0 := by rw [hK3, xup2_s]
        rw [← hK3]
        have b3 : K3 0 0 = nI B := by rw [fa3.2 0 (by decide)]; exact hB
        have aQ : tkF C m (lkQ C m a - fr + fr) = lkX C m a := by rw [show lkQ C m a - fr + fr = lkQ C m a by omega, ← lkX_Q hC]
        -- it is read to its end
        have okk : ∀ L e, PM0 C m (lkX C m a) L true e → (tkK C m e ≠ 0 → res = some (1, e - fr) ∧ c1 = c ∧ D1 = D) → (tkK C m e = 0 → ∃ L e, lGood C m a L e ∧ ((lTw C m a c D ∧ res = some (2, a - fr) ∧ c1 = c ∧ D1 = D) ∨ (¬ lTw C m a c D ∧ lMu C m a c D ∧ res = some (3, a - fr) ∧ c1 = c ∧ D1 = D) ∨ (¬ lTw C m a c D ∧ ¬ lMu C m a c D ∧ c1 = c + 1 ∧ D1 = va_up D c (lRec C m a c D L e) ∧ res = none))) → ac g l mX11_expression [.ref b, .int (nI (lkQ C m a - fr))] (xB h b K3) (fun r h1 => aw g l mX11_line 135 [(0, .ref b), (3, .int (nI (a - fr))), (4, .int (nI (tkT C m a - fr))), (5, .int pf), (6, .int (nI (lkQ C m a - fr))), (7, .int 0)] (r.toList ++ []) h1 Q) := by
          intro L e pm hne heq
          have hge := pm0_ge pm
          have hem : e ≤ m := (pm0_dk (lo := 0) hC pm (Nat.zero_le _) hx2 (n0 := 0) (by omega)).1
          refine c_expression (rc := false) (so := fso D) (ln := fln D) (nm := fnm D) (E := fun _ => none) (B := B) (c := c) (N0 := N) (S0 := S) (a := lkX C m a) (L := L) (o := true) (e := e) hS (RTt_RT (rt K3 fa3 e213)) (by rw [e273]; rfl) b3 hB0 hB2 (fun y => by cases y) rx3 (by omega) (Nat.zero_le _) aQ pm (fun _ => rfl) ⟨fun _ _ K4 fe rx4 e29 e31 => ?_, fun _ y => (by cases y), fun y => (by cases y), fun y => (by cases y), fun y => (by cases y)⟩
          have fa4 := fA_t fa3 (fA_E fe)
          have e214 : K4 0 21 = nI n := by rw [fe.2 21 (by decide)]; exact e213
          refine sX11_line_135 ?_
          refine sX11_line_137 rfl ?_
          refine tX11_line_138 hS ?_
          rw [e29]
          refine nX11_line_141 (by decide) (fun _ => ?_) (fun v => absurd rfl v)
          refine sX11_line_154 rfl ?_
          refine sX11_line_155 rfl ?_
          refine tX11_line_157 hS (Nat.le_of_ble_eq_true rfl) ?_
          refine c_lex (p := e - fr) hS (RTt_RT (rt K4 fa4 e214)) (by omega) (Nat.zero_le _) (fun K5 o5 t5 x5 => ?_)
          rw [show e - fr + fr = e by omega, pm0_tk pm lkX_F] at x5
          obtain ⟨w1, w2, w3, w4, w5⟩ := id x5
          have kb2 := (tkK_big C m e).1
          have fa5 := fA_t fa4 (fA_o o5)
          have rx5 := RX_ro o5 rx4
          have e215 : K5 0 21 = nI n := by rw [o5.2 21 (by decide) (by decide) (by decide)]; exact e214
          refine sX11_line_160 rfl ?_
          refine tX11_line_161 hS ?_
          rw [w5]
          refine nX11_line_164 (by split <;> omega) (fun u => ?_) (fun u => ?_)
          · have u' : tkK C m e = 0 := by
              by_cases y : tkK C m e ≤ 3
              · rw [if_pos y] at u; exact u
              · rw [if_neg y] at u; omega
            refine sX11_line_177 rfl ?_
            refine sX11_line_179 (fun _ => ?_) (fun v => absurd rfl v)
            refine sX11_line_186 rfl ?_
            rcases hpf with ⟨rfl, hp⟩ | ⟨rfl, hp⟩
            · refine sX11_line_188 (fun v => absurd v (by decide)) (fun _ => ?_)
              refine nX11_line_191 ?_
              refine sX11_line_192 ?_
              exact good K5 2 0 _ hp (Or.inr ⟨rfl, by decide⟩) fa5 rx5 e215 (heq u') (fun z hz => by simp only [List.mem_cons, List.not_mem_nil, or_false] at hz; rcases hz with rfl | rfl | rfl | rfl | rfl <;> exact xlk_mem rfl)
            · refine sX11_line_188 (fun _ => ?_) (fun v => absurd rfl v)
              refine nX11_line_195 ?_
              exact good K5 1 0 _ hp (Or.inr ⟨rfl, by decide⟩) fa5 rx5 e215 (heq u') (fun z hz => by simp only [List.mem_cons, List.not_mem_nil, or_false] at hz; rcases hz with rfl | rfl | rfl | rfl | rfl <;> exact xlk_mem rfl)
          · have u' : tkK C m e ≠ 0 := fun y => u (by rw [if_pos (by omega)]; exact y)
            refine sX11_line_167 rfl ?_
            refine nX11_line_168 ?_
            refine sX11_line_169 rfl ?_
            refine tX11_line_170 hS ?_
            rw [w3]
            refine tX11_line_173 hS (Nat.le_of_ble_eq_true rfl) ?_
            refine c_lineFails hS ?_
            exact sX11_line_176 (kf K5 1 _ fa5 rx5 (by decide) (by decide) (hne u'))
        rcases hL2 with ⟨v, -⟩ | ⟨-, L, e, pm, rs⟩ | ⟨-, L, e, pm, v, rs⟩ | ⟨L, e, v, v2⟩
        · exact absurd v hs0
        · refine c_expression (rc := false) (so := fso D) (ln := fln D) (nm := fnm D) (E := fun _ => none) (B := B) (c := c) (N0 := N) (S0 := S) (a := lkX C m a) (L := L) (o := false) (e := e) hS (RTt_RT (rt K3 fa3 e213)) (by rw [e273]; rfl) b3 hB0 hB2 (fun y => by cases y) rx3 (by omega) (Nat.zero_le _) aQ pm (fun y => by cases y) ⟨fun _ y => (by cases y), fun _ _ K4 ret fe rx4 e29 e30 => ?_, fun y => (by cases y), fun y => (by cases y), fun y => (by cases y)⟩
          refine sX11_line_135 ?_
          refine sX11_line_137 rfl ?_
          refine tX11_line_138 hS ?_
          rw [e29]
          refine nX11_line_141 (by decide) (fun v => absurd v (by decide)) (fun _ => ?_)
          refine sX11_line_144 rfl ?_
          refine nX11_line_145 ?_
          refine sX11_line_146 rfl ?_
          refine tX11_line_147 hS ?_
          rw [e30]
          refine tX11_line_150 hS (Nat.le_of_ble_eq_true rfl) ?_
          refine c_lineFails hS ?_
          exact sX11_line_153 (kf K4 1 _ (fA_t fa3 (fA_E fe)) rx4 (by decide) (by decide) rs)
        · refine ac_mono (okk L e pm (fun _ => rs) (fun y => absurd y v)) (fun r h1 q => aw_lv ?_ q)
          exact (fun z hz => by simp only [List.mem_cons, List.not_mem_nil, or_false] at hz; rcases hz with rfl | rfl | rfl | rfl | rfl | rfl <;> exact xlk_mem rfl)
        · rcases v with ⟨v, -⟩ | ⟨-, pm, v⟩
          · exact absurd v hs0
          · refine ac_mono (okk L e pm (fun y => absurd v y) (fun _ => ⟨L, e, Or.inr ⟨hs0, pm, v⟩, v2⟩)) (fun r h1 q => aw_lv ?_ q)
            exact (fun z hz => by simp only [List.mem_cons, List.not_mem_nil, or_false] at hz; rcases hz with rfl | rfl | rfl | rfl | rfl | rfl <;> exact xlk_mem rfl)
      -- behind the NAME
      have behind : ∀ (pf : Int32) (qv : Nat) (lv0 : List (Nat × Value)), lkQ C m a = qv → (pf = 1 ∧ C (tkT C m a) = 45 ∨ pf = 0 ∧ C (tkT C m a) ≠ 45) → (∀ z ∈ ([(0, .ref b), (3, .int (nI (a - fr))), (4, .int (nI (tkT C m a - fr))), (5, .int pf)] : List (Nat × Value)), z ∈ lv0) → aw g l mX11_line 79 lv0 [.int (nI (qv - fr))] (xB h b K1) Q := by
        intro pf qv lv0 hqv hpf hlv
        refine aw_lv hlv ?_
        subst hqv
        refine sX11_line_79 ?_
        refine sX11_line_81 rfl ?_
        refine sX11_line_82 rfl ?_
        refine tX11_line_84 hS (Nat.le_of_ble_eq_true rfl) ?_
        refine c_lex (p := lkQ C m a - fr) hS (RTt_RT (rt K1 fa1 e21)) (by omega) (Nat.zero_le _) (fun K2 o2 t2 x2 => ?_)
        rw [show lkQ C m a - fr + fr = lkQ C m a by omega, ← lkX_Q hC] at x2
        have fa2 := fA_t fa1 (fA_o o2)
        have rx2 := RX_ro o2 rx1
        have e212 : K2 0 21 = nI n := by rw [o2.2 21 (by decide) (by decide) (by decide)]; exact e21
        refine sX11_line_87 rfl ?_
        rcases hpf with ⟨rfl, hp⟩ | ⟨rfl, hp⟩
        · refine sX11_line_89 (fun _ => ?_) (fun v => absurd v (by decide))
          refine sX11_line_105 ?_
          refine sX11_line_106 ?_
          exact sExpr K2 1 _ (by rw [lkS_2.mpr hp]; decide) (Or.inl ⟨rfl, lkS_2.mpr hp⟩) fa2 rx2 e212 (fun z hz => by simp only [List.mem_cons, List.not_mem_nil, or_false] at hz; rcases hz with rfl | rfl | rfl | rfl | rfl | rfl <;> exact xlk_mem rfl)
        · refine sX11_line_89 (fun v => absurd rfl v) (fun _ => ?_)
          rw [show lkX C m a = nx C m a from if_neg hp] at x2
          refine sX11_line_92 rfl ?_
          refine nX11_line_93 ?_
          refine tX11_line_95 hS (Nat.le_of_ble_eq_true rfl) ?_
          refine c_isSign11 hS t2 x2 (by decide) (by decide) (fun y => ?_) (fun y => ?_)
          · refine sX11_line_98 (fun v => absurd v (by decide)) (fun _ => ?_)
            refine sX11_line_101 ?_
            refine sX11_line_102 ?_
            refine sX11_line_106 ?_
            exact sBase K2 _ (lkS_0.mpr ⟨hp, y⟩) fa2 rx2 e212 x2 (fun z hz => by simp only [List.mem_cons, List.not_mem_nil, or_false] at hz; rcases hz with rfl | rfl | rfl | rfl | rfl | rfl <;> exact xlk_mem rfl)
          · refine sX11_line_98 (fun _ => ?_) (fun v => absurd rfl v)
            refine sX11_line_105 ?_
            refine sX11_line_106 ?_
            have n0 : lkS C m a ≠ 0 := fun v => y (lkS_0.mp v).2
            have n2 : lkS C m a ≠ 2 := fun v => hp (lkS_2.mp v)
            exact sExpr K2 0 _ n0 (Or.inr ⟨rfl, by omega⟩) fa2 rx2 e212 (fun z hz => by simp only [List.mem_cons, List.not_mem_nil, or_false] at hz; rcases hz with rfl | rfl | rfl | rfl | rfl | rfl <;> exact xlk_mem rfl)
      refine sX11_line_36 rfl ?_
      refine tX11_line_37 hS ?_
      rw [x1c]
      refine sX11_line_40 ?_
      refine sX11_line_41 rfl ?_
      refine tX11_line_42 hS ?_
      rw [x1d]
      refine sX11_line_45 ?_
      refine sX11_line_47 rfl ?_
      refine sX11_line_48 rfl ?_
      refine tX11_line_50 hS (Nat.le_of_ble_eq_true rfl) ?_
      refine c_at (p := tkT C m a - fr) hS t1 (by omega) (Nat.zero_le _) ?_
      rw [show tkT C m a - fr + fr = tkT C m a by omega]
      refine nX11_line_53 ?_
      refine nX11_line_55 (Nat.lt_trans (hC.2.2 _) (by decide)) (by decide) (fun y => ?_) (fun y => ?_)
      · refine sX11_line_62 ?_
        refine sX11_line_63 ?_
        refine sX11_line_65 rfl ?_
        refine sX11_line_67 (fun _ => ?_) (fun v => absurd rfl v)
        refine sX11_line_77 rfl ?_
        exact behind 0 (tkT C m a) _ (if_neg y) (Or.inr ⟨rfl, y⟩) (fun z hz => by simp only [List.mem_cons, List.not_mem_nil, or_false] at hz; rcases hz with rfl | rfl | rfl | rfl <;> exact xlk_mem rfl)
      · refine sX11_line_58 ?_
        refine sX11_line_59 ?_
        refine sX11_line_63 ?_
        refine sX11_line_65 rfl ?_
        refine sX11_line_67 (fun v => absurd v (by decide)) (fun _ => ?_)
        refine sX11_line_70 rfl ?_
        refine nX11_line_72 ?_
        refine nX11_line_73 ?_
        refine sX11_line_74 ?_
        rw [show tkT C m a - fr + 1 = tkT C m a + 1 - fr by omega]
        exact behind 1 (tkT C m a + 1) _ (if_pos y) (Or.inl ⟨rfl, y⟩) (fun z hz => by simp only [List.mem_cons, List.not_mem_nil, or_false] at hz; rcases hz with rfl | rfl | rfl | rfl <;> exact xlk_mem rfl)
    · -- no NAME
      have z2' : tkK C m a ≠ 2 := fun y => z2 (by rw [if_pos (by omega)]; exact y)
      have rs : res = some (1, a - fr) ∧ c1 = c ∧ D1 = D := by
        rcases hL with ⟨f, p, ⟨-, lb⟩, r1, r2⟩ | ⟨lo, -⟩
        · rcases lb with ⟨-, rfl, rfl⟩ | ⟨y, -⟩
          · exact ⟨r1, r2⟩
          · exact absurd y z2'
        · rcases lo with ⟨y, -⟩ | ⟨y, -⟩
          · exact absurd y z0'
          · exact absurd y z2'
      refine sX11_line_26 rfl ?_
      refine nX11_line_27 ?_
      refine sX11_line_28 rfl ?_
      refine tX11_line_29 hS ?_
      rw [x1c]
      refine tX11_line_32 hS (Nat.le_of_ble_eq_true rfl) ?_
      refine c_lineFails hS ?_
      exact sX11_line_35 (kf K1 1 _ fa1 rx1 (by decide) (by decide) rs)
  · have z0' : tkK C m a = 0 := by
      by_cases y : tkK C m a ≤ 3
      · rw [if_pos y] at z0; exact z0
      · rw [if_neg y] at z0; omega
    obtain ⟨r1, r2, r3⟩ : c1 = c ∧ D1 = D ∧ res = none := by
      rcases hL with ⟨f, p, ⟨y, -⟩, -⟩ | ⟨lo, r⟩
      · exact absurd z0' y
      · rcases lo with ⟨-, y1, y2⟩ | ⟨y, -⟩
        · exact ⟨y1, y2, r⟩
        · omega
    subst r1; subst r2
    exact sX11_line_17 (k K1 (fA_N fa1) rx1 (RB_x (fun r a1 a2 => fa1.1 r (by omega) (by omega)) hRB) (by rw [fa1.2 42 (by decide)]; exact h42) (by rw [fa1.2 43 (by decide)]; exact h43) (by rw [fa1.2 44 (by decide)]; exact h44) (fun _ => by rw [fa1.2 45 (by decide)]; exact h45) (fun f p y => by rw [r3] at y; cases y))
end RLine2
