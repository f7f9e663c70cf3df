/-! ===== the class: reckon, turn ===== -/
section CTurn
variable {g : xG} {l : Launch} {h : xH} {J : Nat → Nat → Int32} {Q : Option Value → xH → Prop} {x L L' H B c ts fl gv : Nat} {D : Nat → Df} {T tp : Nat → Nat} {E : Nat → Option (Nat × Vl)} {V : Vl}
theorem c_add2r {w i s p : Nat} {dt : Int32} (hW : CW h w) (hi : i < 13668) (p3 : J (w + 2) 3 = nI i) (k : ∀ J', (∀ r, r ≠ w + 2 → r ≠ w + 3 → r ≠ w + 4 → r ≠ w + 5 → J' r = J r) → fC w i J J' → en J' w i (s, p, dt) → J' (w + 2) 3 = nI (i + 1) → Q none (xJ h J')) : ac g l mX2_add [.ref (w + 2), .int (nI s), .int (nI p), .int dt] (xJ h J) Q := by
  refine ac_of (by decide) (Nat.le_of_ble_eq_true rfl) ?_
  obtain ⟨-, -, -, -, c1, ⟨c2, c3, c4⟩, t3, t4, t5⟩ := hW
  refine sX2_add_0 rfl ?_
  refine jX2_add_1 (by assumption) ?_
  rw [p3]
  refine nX2_add_4 ?_
  refine nX2_add_7 (by omega) (by omega) (fun z => absurd z (by omega)) (fun _ => ?_)
  refine sX2_add_10 rfl ?_
  refine jX2_add_11 (by assumption) (by assumption) ?_
  refine sX2_add_14 rfl ?_
  refine jX2_add_15 (by assumption) ?_
  rw [p3]
  refine sX2_add_18 rfl ?_
  refine jX2_add_19 (by assumption) (by omega) (by omega) ?_
  refine sX2_add_20 rfl ?_
  refine jX2_add_21 (by assumption) (by assumption) ?_
  refine sX2_add_24 rfl ?_
  refine jX2_add_25 (by assumption) ?_
  rw [xup2_r (by omega), p3]
  refine sX2_add_28 rfl ?_
  refine jX2_add_29 (by assumption) (by omega) (by omega) ?_
  refine sX2_add_30 rfl ?_
  refine jX2_add_31 (by assumption) (by assumption) ?_
  refine sX2_add_34 rfl ?_
  refine jX2_add_35 (by assumption) ?_
  rw [xup2_r (by omega), xup2_r (by omega), p3]
  refine sX2_add_38 rfl ?_
  refine jX2_add_39 (by assumption) (by omega) (by omega) ?_
  refine sX2_add_40 rfl ?_
  refine sX2_add_41 rfl ?_
  refine jX2_add_42 (by assumption) ?_
  rw [xup2_r (by omega), xup2_r (by omega), xup2_r (by omega), p3]
  refine nX2_add_45 ?_
  refine nX2_add_46 ?_
  refine jX2_add_47 (by assumption) ?_
  have fr : ∀ r, r ≠ w + 2 → r ≠ w + 3 → r ≠ w + 4 → r ≠ w + 5 → xup2 (xup2 (xup2 (xup2 J (w + 3) i (nI s)) (w + 4) i (nI p)) (w + 5) i dt) (w + 2) 3 (nI (i + 1)) r = J r := fun r a1 a2 a3 a4 => by rw [xup2_r a1, xup2_r a4, xup2_r a3, xup2_r a2]
  refine sX2_add_50 (k _ fr ⟨fun r a1 a2 a3 a4 _ _ _ _ => fr r a1 a2 a3 a4, fun j hj => ⟨?_, ?_, ?_⟩⟩ ⟨?_, ?_, ?_⟩ xup2_s)
  · rw [xup2_r (by omega), xup2_r (by omega), xup2_r (by omega), xup2_n (by omega)]
  · rw [xup2_r (by omega), xup2_r (by omega), xup2_n (by omega), xup2_r (by omega)]
  · rw [xup2_r (by omega), xup2_n (by omega), xup2_r (by omega), xup2_r (by omega)]
  · rw [xup2_r (by omega), xup2_r (by omega), xup2_r (by omega), xup2_s]
  · rw [xup2_r (by omega), xup2_r (by omega), xup2_s]
  · rw [xup2_r (by omega), xup2_s]
theorem CI_L {J' : Nat → Nat → Int32} (o : ∀ r, r < x + 2 ∨ x + 20 ≤ r → J' r = J r) (hB' : WB J' (x + 2) c D T) (hI : CI g h J x L L' H B c D T E ts tp V fl gv) : CI g h J' x L L' H B c D T E ts tp V fl gv := by
  obtain ⟨hS, hptr, ⟨b0, b1, B16, B512⟩, hten, ⟨e2, ts4, htp⟩, hD, hB, hE, ⟨hV, wV⟩, e8, e10⟩ := hI
  obtain ⟨gx, hxH, hHh, hW, hQ, hCR, lay⟩ := CS_x hS
  have hc := hD.1
  exact ⟨hS, hptr, ⟨by rw [o x (by omega)]; exact b0, by rw [o _ (by omega)]; exact b1, B16, B512⟩, fun i hi => by rw [o _ (by omega)]; exact hten i hi, ⟨by rw [o x (by omega)]; exact e2, ts4, fun i hi => by rw [o _ (by omega)]; exact htp i hi⟩, hD, hB', LE_c hc (fun r a1 a2 => o r (by omega)) hE, ⟨VJ_c (fun r a1 a2 => o r (by omega)) hV, wV⟩, by rw [o x (by omega)]; exact e8, by rw [o x (by omega)]; exact e10⟩
theorem CI_C {i : Nat} {J' : Nat → Nat → Int32} (hi : eO (fce D) c ≤ i) (f : fC (x + 2) i J J') (hI : CI g h J x L L' H B c D T E ts tp V fl gv) : CI g h J' x L L' H B c D T E ts tp V fl gv := CI_L (fun r hr => f.1 r (by omega) (by omega) (by omega) (by omega) (by omega) (by omega) (by omega) (by omega)) (WB_f hI.2.2.2.2.2.1 hi f hI.2.2.2.2.2.2.1) hI
theorem JF_C {i : Nat} {J' : Nat → Nat → Int32} (f : fC (x + 2) i J J') : JF x H J J' := fun r hr => f.1 r (by omega) (by omega) (by omega) (by omega) (by omega) (by omega) (by omega) (by omega)
theorem c_reckon10 {fr m a : Nat} {C TT : Nat → Nat} (hI : CI g h J x L L' H B c D T E ts tp V fl gv) (hroom : eO (fte D) c + ts ≤ 10240) (hK : KN B c D E) (hfr : fr = eO (fte D) c) (hTT : TT = tT T tp fr ts) (hm : m = fr + ts) (hC : C = cT TT m) (ha : a = tkF C m fr)
    (kS : ∀ h' J' e, (∃ L, PM0 C m a L false e) ∨ (∃ L, PM0 C m a L true e ∧ tkK C m e ≠ 0) → HF x h h' → JF x H J J' → CI g h' J' x L L' H B c D TT E 0 tp V 1 gv → Q (some (.int (-10 - nI (e - fr)))) (xJ h' J'))
    (kF : ∀ h' J' Ls e f p, PM0 C m a Ls true e → tkK C m e = 0 → exe B C m E (mng (fso D) (fln D) (fnm D) c C) Ls [] = rBad f p → f ≠ 0 → f < 100 → HF x h h' → JF x H J J' → CI g h' J' x L L' H B c D TT E 0 tp V f gv → Q (some (.int (-10 - nI (p - fr)))) (xJ h' J'))
    (kV : ∀ h' J' Ls e v, PM0 C m a Ls true e → tkK C m e = 0 → exe B C m E (mng (fso D) (fln D) (fnm D) c C) Ls [] = rOk [v] → HF x h h' → JF x H J J' → CI g h' J' x L L' H B c D TT E 0 tp v 0 (gv + 1) → Q (some (.int (nI 1))) (xJ h' J')) : ac g l mX10_reckon [.ref x] (xJ h J) Q := by
  refine ac_of (by decide) (Nat.le_of_ble_eq_true rfl) ?_
  have t1 := hI.1.1.1
  have hce := DB_ce hI.2.2.2.2.2.1
  have wt0 := hI.2.2.2.2.2.2.1.1
  refine sX10_reckon_0 rfl ?_
  refine jX10_reckon_1 (Nat.le_of_ble_eq_true rfl) (by assumption) ?_
  refine c_openText hI hroom (fun J1 jf1 tj ts1 sz hI1 => ?_)
  rw [← hfr] at tj ts1 hI1 hroom hce ⊢
  rw [← hTT, ← hm] at tj ts1
  rw [← hTT] at hI1
  rw [← hC] at tj ts1
  rw [← ha] at ts1
  have hCk : tOk C m := tj.2.2.1
  have hm10 : m ≤ 10240 := tj.2.1
  have hfa : fr ≤ a := by rw [ha]; exact tkF_ge _ _ _
  have ham : a ≤ m := by rw [ha]; exact tkF_le (by omega)
  have hTC : ∀ q, q < m → TT q = C q := fun q hq => by rw [hC]; exact (cT_in hq).symm
  have hf0 : fxT (fxT h x) x = fxT h x := fxT_2
  have hfh : HF x h (fxT h x) := HF_f x h
  generalize hh0 : fxT h x = h0 at *
  obtain ⟨gx, hxH, hHh, hW, hQ, hCR, lay⟩ := CS_x hI1.1
  rw [hf0] at hQ
  obtain ⟨z1, ⟨y1, y3, y4, -⟩, -⟩ := id hI1.1.1
  obtain ⟨tw, ⟨-, w1, -⟩, -⟩ := id hW
  have y4' : xP h0 x 4 = some (x + 2 + 13) := y4
  have t13 := hQ.2.1
  refine sX10_reckon_4 ?_
  refine sX10_reckon_5 rfl ?_
  refine sX10_reckon_6 rfl ?_
  refine sX10_reckon_7 rfl ?_
  refine jX10_reckon_8 (by assumption) (by assumption) ?_
  refine sX10_reckon_11 rfl ?_
  refine jX10_reckon_12 (by assumption) (by assumption) ?_
  refine jX10_reckon_15 (by assumption) (by assumption) ?_
  refine jX10_reckon_18 (Nat.le_of_ble_eq_true rfl) (by assumption) ?_
  refine c_readExpr (u := 0) (i := eO (fce D) c) (a := a) hQ ham (by omega) tj ts1 sz ⟨fun J2 Ls e pm fc hsg pt hem hlen => ?_, fun J2 e pm fc tj2 ts2 hem hz => ?_⟩
  · obtain ⟨-, ts2, sz2, -⟩ := pt
    have hge := pm0_ge pm
    have hI2 := CI_C (Nat.le_refl _) fc hI1
    refine jX10_reckon_21 (Nat.le_of_ble_eq_true rfl) (by assumption) ?_
    refine c_answerText (e := e) (m := m) (C := C) (Ls := Ls) hI2 hf0 hK (Or.inr rfl) ts2 (by omega) (fun hs J3 jf3 hI3 => ?_) (fun _ z => ⟨hCk, hm10, hTC, hsg, sz2, by omega, (pm0_dk (lo := 0) hCk pm (Nat.zero_le _) ham (n0 := 0) (by omega)).2.2, fun s hs => Nat.le_trans hfa (pm0_pl pm s hs)⟩) (fun _ z h' J3 f p ex f0 f1 hf jf3 hI3 => ?_) (fun _ z h' J3 v ex hf jf3 hI3 => ?_)
    · refine sX10_reckon_24 (kS h0 J3 e (Or.inr ⟨Ls, pm, ?_⟩) hfh (JF_t jf1 (JF_t (JF_C fc) jf3)) hI3)
      rcases hs with y | y
      · exact absurd y (by decide)
      · exact y
    · exact sX10_reckon_24 (kF h' J3 Ls e f p pm z ex f0 f1 (HF_t hfh hf) (JF_t jf1 (JF_t (JF_C fc) jf3)) hI3)
    · exact sX10_reckon_24 (kV h' J3 Ls e v pm z ex (HF_t hfh hf) (JF_t jf1 (JF_t (JF_C fc) jf3)) hI3)
  · have hge : a ≤ e := by obtain ⟨Ls, pm⟩ := pm; exact pm0_ge pm
    have hI2 := CI_C (Nat.le_refl _) fc hI1
    refine jX10_reckon_21 (Nat.le_of_ble_eq_true rfl) (by assumption) ?_
    refine c_answerText (e := e) (m := m) (C := C) (Ls := []) hI2 hf0 hK (Or.inl rfl) ts2 (by omega) (fun hs J3 jf3 hI3 => ?_) (fun y => absurd y (by decide)) (fun y => absurd y (by decide)) (fun y => absurd y (by decide))
    exact sX10_reckon_24 (kS h0 J3 e (Or.inl pm) hfh (JF_t jf1 (JF_t (JF_C fc) jf3)) hI3)
/-- an EXPR, >, an EXPR: where it is no such text -/
def tnB (C : Nat → Nat) (m a e : Nat) : Prop := (∃ L, PM0 C m a L false e) ∨ (∃ L, PM0 C m a L true e ∧ tkK C m e ≠ 62) ∨ (∃ L e1 L2, PM0 C m a L true e1 ∧ tkK C m e1 = 62 ∧ PM0 C m (nx C m e1) L2 false e) ∨ ∃ L e1 L2, PM0 C m a L true e1 ∧ tkK C m e1 = 62 ∧ PM0 C m (nx C m e1) L2 true e ∧ tkK C m e ≠ 0
def tnO (C : Nat → Nat) (m a : Nat) (L : List St) (e1 : Nat) (L2 : List St) (e : Nat) : Prop := PM0 C m a L true e1 ∧ tkK C m e1 = 62 ∧ PM0 C m (nx C m e1) L2 true e ∧ tkK C m e = 0
theorem c_turn10 {fr m a : Nat} {C TT : Nat → Nat} (hI : CI g h J x L L' H B c D T E ts tp V fl gv) (hroom : eO (fte D) c + ts ≤ 10240) (hK : KN B c D E) (hfr : fr = eO (fte D) c) (hTT : TT = tT T tp fr ts) (hm : m = fr + ts) (hC : C = cT TT m) (ha : a = tkF C m fr)
    (kS : ∀ h' J' e, tnB C m a e → HF x h h' → JF x H J J' → CI g h' J' x L L' H B c D TT E 0 tp V 1 gv → Q (some (.int (-10 - nI (e - fr)))) (xJ h' J'))
    (kF : ∀ h' J' L1 e1 L2 e f p, tnO C m a L1 e1 L2 e → exe B C m E (mng (fso D) (fln D) (fnm D) c C) (L1 ++ (L2 ++ [(18, e1, 0)])) [] = rBad f p → f ≠ 0 → f < 100 → HF x h h' → JF x H J J' → CI g h' J' x L L' H B c D TT E 0 tp V f gv → Q (some (.int (-10 - nI (p - fr)))) (xJ h' J'))
    (kV : ∀ h' J' L1 e1 L2 e v, tnO C m a L1 e1 L2 e → exe B C m E (mng (fso D) (fln D) (fnm D) c C) (L1 ++ (L2 ++ [(18, e1, 0)])) [] = rOk [v] → HF x h h' → JF x H J J' → CI g h' J' x L L' H B c D TT E 0 tp v 0 (gv + 1) → Q (some (.int (nI 1))) (xJ h' J')) : ac g l mX10_turn [.ref x] (xJ h J) Q := by
  refine ac_of (by decide) (Nat.le_of_ble_eq_true rfl) ?_
  have t1 := hI.1.1.1
  have hce := DB_ce hI.2.2.2.2.2.1
  refine sX10_turn_0 rfl ?_
  refine jX10_turn_1 (Nat.le_of_ble_eq_true rfl) (by assumption) ?_
  refine c_openText hI hroom (fun J1 jf1 tj ts1 sz hI1 => ?_)
  rw [← hfr] at tj ts1 hI1 hroom hce ⊢
  rw [← hTT, ← hm] at tj ts1
  rw [← hTT] at hI1
  rw [← hC] at tj ts1
  rw [← ha] at ts1
  have hCk : tOk C m := tj.2.2.1
  have hm10 : m ≤ 10240 := tj.2.1
  have hfa : fr ≤ a := by rw [ha]; exact tkF_ge _ _ _
  have ham : a ≤ m := by rw [ha]; exact tkF_le (by omega)
  have hTC : ∀ q, q < m → TT q = C q := fun q hq => by rw [hC]; exact (cT_in hq).symm
  have hf0 : fxT (fxT h x) x = fxT h x := fxT_2
  have hfh : HF x h (fxT h x) := HF_f x h
  generalize hh0 : fxT h x = h0 at *
  obtain ⟨gx, hxH, hHh, hW, hQ, hCR, lay⟩ := CS_x hI1.1
  rw [hf0] at hQ
  obtain ⟨z1, ⟨y1, y3, y4, -⟩, -⟩ := id hI1.1.1
  obtain ⟨tw, ⟨-, w1, -⟩, -, -, tc, -⟩ := id hW
  have y4' : xP h0 x 4 = some (x + 2 + 13) := y4
  obtain ⟨-, t13, ⟨q0, -⟩, -, -, hCK⟩ := id hQ
  have t14 : (xT h0 (x + 2 + 14)).1 = 8 := hCK.1
  -- no text of this form
  have bad : ∀ (J2 : Nat → Nat → Int32) (e : Nat) (lv0 : List (Nat × Value)), tnB C m a e → a ≤ e → TS J2 (x + 2 + 14) C m e → JF x H J J2 → CI g h0 J2 x L L' H B c D TT E 0 tp V fl gv → (∀ z ∈ ([(0, .ref x), (1, .int (nI fr)), (2, .int 0)] : List (Nat × Value)), z ∈ lv0) → aw g l mX10_turn 97 lv0 [] (xJ h0 J2) Q := by
    intro J2 e lv0 hb hae ts2 jf2 hI2 hlv
    refine aw_lv hlv ?_
    refine sX10_turn_97 rfl ?_
    refine sX10_turn_98 rfl ?_
    refine sX10_turn_99 rfl ?_
    refine jX10_turn_100 (Nat.le_of_ble_eq_true rfl) (by assumption) ?_
    refine c_answerText (e := e) (m := m) (C := C) (Ls := []) hI2 hf0 hK (Or.inl rfl) ts2 (by omega) (fun hs J3 jf3 hI3 => ?_) (fun y => absurd y (by decide)) (fun y => absurd y (by decide)) (fun y => absurd y (by decide))
    exact sX10_turn_103 (kS h0 J3 e hb hfh (JF_t jf2 jf3) hI3)
  refine sX10_turn_4 ?_
  refine sX10_turn_5 rfl ?_
  refine jX10_turn_6 (by assumption) (by assumption) ?_
  refine sX10_turn_9 rfl ?_
  refine jX10_turn_10 (by assumption) (by assumption) ?_
  refine jX10_turn_13 (by assumption) (by assumption) ?_
  refine jX10_turn_16 (Nat.le_of_ble_eq_true rfl) (by assumption) ?_
  refine c_readExpr (u := 0) (i := eO (fce D) c) (a := a) hQ ham (by omega) tj ts1 sz ⟨fun J2 L1 e1 pm1 fc1 hsg1 pt1 hem1 hlen1 => ?_, fun J2 e1 pm1 fc1 tj2 ts2 hem1 hz1 => ?_⟩
  · obtain ⟨tj2, ts2, sz2, -⟩ := id pt1
    have hge1 := pm0_ge pm1
    have hI2 := CI_C (Nat.le_refl _) fc1 hI1
    have jf2 := JF_t jf1 (JF_C (H := H) fc1)
    have kb := (tkK_big C m e1).1
    refine sX10_turn_19 (fun y => absurd y (by decide)) (fun _ => ?_)
    refine sX10_turn_22 rfl ?_
    refine jX10_turn_23 (by assumption) (by assumption) ?_
    refine jX10_turn_26 (by assumption) (by assumption) ?_
    refine jX10_turn_29 (by assumption) ?_
    rw [ts2.2.1]
    refine nX10_turn_32 ?_
    refine nX10_turn_34 (by omega) (by decide) (fun y => ?_) (fun y => ?_)
    · refine sX10_turn_41 ?_
      refine sX10_turn_42 ?_
      refine sX10_turn_43 rfl ?_
      refine jX10_turn_44 (by assumption) (by assumption) ?_
      refine jX10_turn_47 (by assumption) (by assumption) ?_
      refine jX10_turn_50 (by assumption) ?_
      rw [ts2.1]
      refine sX10_turn_53 ?_
      refine sX10_turn_54 rfl ?_
      refine sX10_turn_55 (fun _ => ?_) (fun v => absurd rfl v)
      exact bad J2 e1 _ (Or.inr (Or.inl ⟨L1, pm1, y⟩)) hge1 ts2 jf2 hI2 (fun z hz => by simp only [List.mem_cons, List.not_mem_nil, or_false] at hz; rcases hz with rfl | rfl | rfl <;> exact xlk_mem rfl)
    · have hlt : e1 < m := tkK_lt (C := C) (by omega)
      have ng := nx_gt (C := C) hlt
      have nl : nx C m e1 ≤ m := nx_le hCk hem1
      refine sX10_turn_37 ?_
      refine sX10_turn_38 ?_
      refine sX10_turn_42 ?_
      refine sX10_turn_43 rfl ?_
      refine jX10_turn_44 (by assumption) (by assumption) ?_
      refine jX10_turn_47 (by assumption) (by assumption) ?_
      refine jX10_turn_50 (by assumption) ?_
      rw [ts2.1]
      refine sX10_turn_53 ?_
      refine sX10_turn_54 rfl ?_
      refine sX10_turn_55 (fun v => absurd v (by decide)) (fun _ => ?_)
      refine sX10_turn_58 rfl ?_
      refine jX10_turn_59 (by assumption) (by assumption) ?_
      refine jX10_turn_62 (by assumption) (by assumption) ?_
      refine jX10_turn_65 (Nat.le_of_ble_eq_true rfl) (by assumption) ?_
      refine c_next hCK tj2 (tkT_le hCk hem1) ts2.2.2.1 (fun J3 o3 tj3 ts3 => ?_)
      have fc3 : fC (x + 2) (eO (fce D) c + L1.length) J2 J3 := ⟨fun r _ _ _ _ _ a6 _ _ => o3 r a6, fun j _ => ⟨by rw [o3 _ (by omega)], by rw [o3 _ (by omega)], by rw [o3 _ (by omega)]⟩⟩
      refine sX10_turn_68 rfl ?_
      refine jX10_turn_69 (by assumption) (by assumption) ?_
      refine sX10_turn_72 rfl ?_
      refine jX10_turn_73 (by assumption) (by assumption) ?_
      refine jX10_turn_76 (by assumption) (by assumption) ?_
      refine jX10_turn_79 (Nat.le_of_ble_eq_true rfl) (by assumption) ?_
      refine c_readExpr (u := 0) (i := eO (fce D) c + L1.length) (a := nx C m e1) hQ nl (by omega) tj3 ts3 (by rw [o3 _ (by omega)]; exact sz2) ⟨fun J4 L2 e2 pm2 fc2 hsg2 pt2 hem2 hlen2 => ?_, fun J4 e2 pm2 fc2 tj4 ts4 hem2 hz2 => ?_⟩
      · obtain ⟨tj4, ts4, sz4, -⟩ := id pt2
        have hge2 := pm0_ge pm2
        refine sX10_turn_82 ?_
        refine sX10_turn_83 rfl ?_
        refine jX10_turn_84 (by assumption) (by assumption) ?_
        refine jX10_turn_87 (by assumption) (by assumption) ?_
        refine nX10_turn_90 ?_
        refine sX10_turn_92 rfl ?_
        refine nX10_turn_93 ?_
        refine jX10_turn_94 (Nat.le_of_ble_eq_true rfl) (by assumption) ?_
        refine c_add2 (s := 18) (p := e1) (dt := nI 0) hW (by omega) pt2 (fun J5 o5 fc5 en5 pt5 => ?_)
        obtain ⟨-, ts5, sz5, -⟩ := id pt5
        have fcA : fC (x + 2) (eO (fce D) c + L1.length) J2 J5 := fC_t (fC_t fc3 fc2 (Nat.le_refl _)) fc5 (by omega)
        have hI5 := CI_C (i := eO (fce D) c) (Nat.le_refl _) (fC_t fc1 fcA (by omega)) hI1
        have jf5 : JF x H J J5 := JF_t jf1 (JF_C (fC_t fc1 fcA (by omega)))
        have sg5 : sg J5 (x + 2) (eO (fce D) c) (L1 ++ (L2 ++ [(18, e1, 0)])) := by
          refine sg_app (sg_c fcA (Nat.le_refl _) hsg1) (sg_app (sg_c fc5 (Nat.le_refl _) hsg2) ⟨?_, trivial⟩)
          exact en5
        have ell : (L1 ++ (L2 ++ [((18, e1, 0) : St)])).length = L1.length + L2.length + 1 := by rw [List.length_append, List.length_append]; show L1.length + (L2.length + 1) = _; omega
        have d1 := (pm0_dk (lo := 0) hCk pm1 (Nat.zero_le _) ham (n0 := 0) (by omega)).2.2
        have d2 := (pm0_dk (lo := 0) hCk pm2 (Nat.zero_le _) nl (n0 := 1) (by omega)).2.2
        have d3 : dk C m 0 66 1 [((18, e1, 0) : St)] 2 := ⟨by decide, Or.inr (Or.inr (Or.inr (Or.inr ⟨Or.inr (Or.inr (Or.inr (Or.inr rfl))), by decide, rfl⟩)))⟩
        refine sX10_turn_97 rfl ?_
        refine sX10_turn_98 rfl ?_
        refine sX10_turn_99 rfl ?_
        refine jX10_turn_100 (Nat.le_of_ble_eq_true rfl) (by assumption) ?_
        refine c_answerText (e := e2) (m := m) (C := C) (Ls := L1 ++ (L2 ++ [(18, e1, 0)])) hI5 hf0 hK (Or.inr rfl) ts5 (by omega) (fun hs J6 jf6 hI6 => ?_) (fun _ z => ⟨hCk, hm10, hTC, sg5, by rw [ell, sz5]; congr 1; omega, by rw [ell]; omega, dk_app d1 (dk_app d2 d3), fun s hs => ?_⟩) (fun _ z h' J6 f p ex f0 f1 hf jf6 hI6 => ?_) (fun _ z h' J6 v ex hf jf6 hI6 => ?_)
        · refine sX10_turn_103 (kS h0 J6 e2 (Or.inr (Or.inr (Or.inr ⟨L1, e1, L2, pm1, y, pm2, ?_⟩))) hfh (JF_t jf5 jf6) hI6)
          rcases hs with v | v
          · exact absurd v (by decide)
          · exact v
        · rcases List.mem_append.mp hs with v | v
          · exact Nat.le_trans hfa (pm0_pl pm1 s v)
          · rcases List.mem_append.mp v with u | u
            · have := pm0_pl pm2 s u; omega
            · rw [List.mem_singleton.mp u]; show fr ≤ e1; omega
        · exact sX10_turn_103 (kF h' J6 L1 e1 L2 e2 f p ⟨pm1, y, pm2, z⟩ ex f0 f1 (HF_t hfh hf) (JF_t jf5 jf6) hI6)
        · exact sX10_turn_103 (kV h' J6 L1 e1 L2 e2 v ⟨pm1, y, pm2, z⟩ ex (HF_t hfh hf) (JF_t jf5 jf6) hI6)
      · obtain ⟨L2, pm2⟩ := pm2
        obtain ⟨z, hz3, hz4, hz5⟩ := hz2
        have hge2 := pm0_ge pm2
        refine sX10_turn_82 ?_
        refine sX10_turn_83 rfl ?_
        refine jX10_turn_84 (by assumption) (by assumption) ?_
        refine jX10_turn_87 (by assumption) (by assumption) ?_
        refine nX10_turn_90 ?_
        refine sX10_turn_92 rfl ?_
        refine nX10_turn_93 ?_
        refine jX10_turn_94 (Nat.le_of_ble_eq_true rfl) (by assumption) ?_
        refine c_add2r (s := 18) (p := e1) (dt := nI 0) hW hz5 hz3 (fun J5 o5 fc5 en5 sz5 => ?_)
        have fcA : fC (x + 2) (eO (fce D) c + L1.length) J2 J5 := fC_t (fC_t fc3 fc2 (Nat.le_refl _)) fc5 hz4
        have hI5 := CI_C (i := eO (fce D) c) (Nat.le_refl _) (fC_t fc1 fcA (by omega)) hI1
        have jf5 : JF x H J J5 := JF_t jf1 (JF_C (fC_t fc1 fcA (by omega)))
        have ts5 : TS J5 (x + 2 + 14) C m e2 := by unfold TS at ts4 ⊢; rw [o5 _ (by omega) (by omega) (by omega) (by omega)]; exact ts4
        exact bad J5 e2 _ (Or.inr (Or.inr (Or.inl ⟨L1, e1, L2, pm1, y, pm2⟩))) (by omega) ts5 jf5 hI5 (fun z hz => by simp only [List.mem_cons, List.not_mem_nil, or_false] at hz; rcases hz with rfl | rfl | rfl <;> exact xlk_mem rfl)
  · have hge1 : a ≤ e1 := by obtain ⟨Ls, pm⟩ := pm1; exact pm0_ge pm
    have hI2 := CI_C (Nat.le_refl _) fc1 hI1
    refine sX10_turn_19 (fun _ => ?_) (fun y => absurd rfl y)
    refine sX10_turn_41 ?_
    refine sX10_turn_42 ?_
    refine sX10_turn_43 rfl ?_
    refine jX10_turn_44 (by assumption) (by assumption) ?_
    refine jX10_turn_47 (by assumption) (by assumption) ?_
    refine jX10_turn_50 (by assumption) ?_
    rw [ts2.1]
    refine sX10_turn_53 ?_
    refine sX10_turn_54 rfl ?_
    refine sX10_turn_55 (fun _ => ?_) (fun v => absurd rfl v)
    exact bad J2 e1 _ (Or.inl pm1) hge1 ts2 (JF_t jf1 (JF_C fc1)) hI2 (fun z hz => by simp only [List.mem_cons, List.not_mem_nil, or_false] at hz; rcases hz with rfl | rfl | rfl <;> exact xlk_mem rfl)
end CTurn
