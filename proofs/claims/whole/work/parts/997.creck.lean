/-! ===== the class: forget, reckon, turn ===== -/
def lp (n : Nat) (V : Vl) : Vl := (V.1, V.2.1, V.2.2.1, fun j => if n ≤ j ∧ j < 8 then 0 else V.2.2.2 j)
theorem vWf_lp {n : Nat} {V : Vl} (h : vWf V) : vWf (lp n V) := by
  obtain ⟨h1, h2, h3, h4, h5, h6, h7⟩ := h
  refine ⟨h1, h2, h3, h4, h5, h6, fun j hj => ?_⟩
  show ¬ (if n ≤ j ∧ j < 8 then (0 : Int32) else V.2.2.2 j) < -99 ∧ ¬ 99 < (if n ≤ j ∧ j < 8 then (0 : Int32) else V.2.2.2 j)
  split
  · decide
  · exact h7 j hj
section CReck
variable {g : xG} {l : Launch} {h : xH} {J : Nat → Nat → Int32} {Q : Option Value → xH → Prop} {x L L' H B c ts fl gv : Nat} {D : Nat → Df} {T tp : Nat → Nat} {E : Nat → Option (Nat × Vl)} {V : Vl}
theorem c_forget10 {n : Int32} (hI : CI g h J x L L' H B c D T E ts tp V fl gv)
    (k0 : (n < 0 ∨ ∃ j, n = nI j ∧ c < j ∧ j < 2 ^ 31) → Q (some (.int (-1))) (xJ h J))
    (kz : n = nI 0 → Q (some (.int (nI c))) (xJ h J))
    (kA : ∀ j h' J' E', n = nI j → 0 < j → j ≤ c → KN B (c - j) D E' → HF x h h' → JF x H J J' → CI g h' J' x L' L H B (c - j) D T E' ts tp (lp (nb (fso D) (c - j)) V) fl gv → Q (some (.int (nI (c - j)))) (xJ h' J'))
    (kB : ∀ j i h' J', n = nI j → 0 < j → j ≤ c → i < c - j → ¬ fn B (c - j) D i → (∀ i', i' < i → fn B (c - j) D i') → HF x h h' → JF x H J J' → CI g h' J' x L L' H B c D T E ts tp V fl gv → Q (some (.int (-1))) (xJ h' J')) : ac g l mX10_forget [.ref x, .int n] (xJ h J) Q := by
  refine ac_of (by decide) (Nat.le_of_ble_eq_true rfl) ?_
  have hI' := hI
  obtain ⟨hS, hptr, ⟨b0, b1, B16, B512⟩, hten, ⟨e2, ts4, htp⟩, hD, hB, hE, ⟨hV, wV⟩, e8, e10⟩ := hI
  obtain ⟨gx, hxH, hHh, hW, hQ, hR, lay⟩ := CS_x hS
  obtain ⟨hM, hU, hCV, hCE⟩ := id hS
  obtain ⟨t1, ⟨p1, p3, p4, p5, p6, p7⟩, -⟩ := id hM
  have tw := hW.1
  have hc := hD.1
  have tail : ∀ (lv0 : List (Nat × Value)), Q (some (.int (nI c))) (xJ h J) → (∀ z ∈ ([(0, .ref x)] : List (Nat × Value)), z ∈ lv0) → aw g l mX10_forget 72 lv0 [] (xJ h J) Q := by
    intro lv0 q hlv
    refine aw_lv hlv ?_
    refine sX10_forget_72 rfl ?_
    refine jX10_forget_73 (by assumption) (by assumption) ?_
    refine jX10_forget_76 (by assumption) ?_
    rw [hB.2.1]
    exact sX10_forget_79 q
  refine sX10_forget_0 rfl ?_
  refine jX10_forget_1 (by assumption) (by assumption) ?_
  refine jX10_forget_4 (by assumption) ?_
  rw [hB.2.1]
  refine sX10_forget_7 ?_
  refine sX10_forget_8 rfl ?_
  rcases i32c n with z | ⟨j, rfl, hj⟩
  · refine sX10_forget_9 (fun _ => ?_) (fun y => absurd z y)
    refine sX10_forget_17 ?_
    exact sX10_forget_18 (k0 (Or.inl z))
  · refine nX10_forget_9 hj ?_
    refine sX10_forget_12 rfl ?_
    refine sX10_forget_13 rfl ?_
    refine nX10_forget_14 hj (by omega) (fun z => ?_) (fun z => ?_)
    · refine sX10_forget_19 rfl ?_
      refine nX10_forget_20 hj (fun y => ?_) (fun y => ?_)
      · subst y
        exact tail _ (kz rfl) (fun z hz => by simp only [List.mem_cons, List.not_mem_nil, or_false] at hz; rcases hz with rfl <;> exact xlk_mem rfl)
      · have y0 : 0 < j := by omega
        have fx := hptr (by omega)
        have efx : fxT h x = h := fxT_id fx
        rw [efx] at hU hQ hR
        have t7 := hR.1
        refine sX10_forget_23 rfl ?_
        refine jX10_forget_24 (by assumption) (by assumption) ?_
        refine sX10_forget_27 rfl ?_
        refine sX10_forget_28 rfl ?_
        refine nX10_forget_29 (by omega) ?_
        refine jX10_forget_30 (Nat.le_of_ble_eq_true rfl) (by assumption) ?_
        refine c_resize (so := fso D) hW (by omega) (fun i hi => ⟨(hB.2.2.2 i (by omega)).1, (hD.2.1 i (by omega)).1⟩) (fun J1 r1 r2 r3 r4 => ?_)
        have B1 : WB J1 (x + 2) (c - j) D T := WB_take (Nat.sub_le _ _) (fun _ _ => rfl) r1 r3 r4 hB
        have D1 : DB (c - j) D := DB_take hD (Nat.sub_le _ _)
        have ct1 : CT g h J1 := ⟨hU.2.2.2.2.2.2, fun i hi => by rw [r1 _ (by omega)]; exact hten i hi⟩
        have p5' : xP h x 5 = some (x + 32) := p5
        refine sX10_forget_33 rfl ?_
        refine jX10_forget_34 (by assumption) (by assumption) ?_
        refine sX10_forget_37 rfl ?_
        refine jX10_forget_38 (by assumption) (by assumption) ?_
        refine jX10_forget_41 (Nat.le_of_ble_eq_true rfl) (by assumption) ?_
        refine c_settle (mg := dM (c - j) D) (bv := bvO (fbn D)) (fun _ => rfl) rfl hU (WB_D D1 B1) ct1 (by rw [r1 _ (by omega)]; exact b1) B16 B512 (fun h' J2 E' hz u' fv le all => ?_) (fun h' J2 i hz u' fv hi nf af => ?_)
        · have o2 : ∀ r, r < H → r ≠ x + 2 → r ≠ x + 32 → r < L' ∨ L' + 604 ≤ r → r < x + 32 + 1210 ∨ x + 32 + 1226 ≤ r → J2 r = J r := fun r a1 a2 a3 a4 a5 => by rw [fv.1 r a1 a3 a2 a4 a5, r1 r a2]
          have rx : J2 x = J x := o2 x (by omega) (by omega) (by omega) (by omega) (by omega)
          have hf1 : HF x h h' := HF_Z hz
          have low1 := HF_low hf1 (show x + 32 ≤ h.1 by omega)
          have hM' := low_CM low1 hM
          obtain ⟨v1, ⟨-, v3, -, -, -, v7⟩, -⟩ := id hM'
          have fx' : xP h' (x + 2 + 14) 0 = some (x + 2 + 1) := u'.1.2.2.2.2.2.2.1
          have efx' : fxT h' x = h' := fxT_id fx'
          have B2 : WB J2 (x + 2) (c - j) D T := WB_x (fun r a1 a2 a3 => fv.1 r (by omega) (by omega) (by omega) (by omega) (by omega)) (fv.2.1 9 (by decide) (by decide)) (fv.2.1 10 (by decide) (by decide)) B1
          have hCV' := low_CV low1 hCV
          have tw' := u'.1.1.1
          have t9 := hCV'.1
          refine sX10_forget_44 ?_
          refine sX10_forget_45 (fun _ => ?_) (fun v => absurd rfl v)
          refine sX10_forget_58 rfl ?_
          refine jX10_forget_59 (by assumption) (by assumption) ?_
          refine sX10_forget_62 rfl ?_
          refine jX10_forget_63 (by assumption) (by assumption) ?_
          refine jX10_forget_66 (by assumption) ?_
          rw [show J2 (x + 2) 10 = nI (nb (fso D) (c - j)) from B2.2.2.1]
          have hnb := D1.2.2.2.1
          refine jX10_forget_69 (Nat.le_of_ble_eq_true rfl) (by assumption) ?_
          refine c_losePowers hCV' (by omega) (fun J3 o3 q3 => ?_)
          have o23 : ∀ r, r ≠ x + 26 + 5 → r < H → r ≠ x + 2 → r ≠ x + 32 → r < L' ∨ L' + 604 ≤ r → r < x + 32 + 1210 ∨ x + 32 + 1226 ≤ r → J3 r = J r := fun r a0 a1 a2 a3 a4 a5 => by rw [o3 r a0, o2 r a1 a2 a3 a4 a5]
          have rx3 : J3 x = J x := by rw [o3 x (by omega)]; exact rx
          have B3 : WB J3 (x + 2) (c - j) D T := WB_x (fun r a1 a2 a3 => o3 r (by omega)) (by rw [o3 _ (by omega)]) (by rw [o3 _ (by omega)]) B2
          refine sX10_forget_72 rfl ?_
          refine jX10_forget_73 (by assumption) (by assumption) ?_
          refine jX10_forget_76 (by assumption) ?_
          rw [B3.2.1]
          refine sX10_forget_79 (kA j h' J3 E' rfl y0 z (fun k hk => all k hk) hf1 (fun r hr => ?_) ⟨⟨hM', by rw [efx']; exact u', hCV', low_CE low1 hCE⟩, fun _ => fx', ⟨by rw [rx3]; exact b0, by rw [o3 _ (by omega), fv.2.2, r1 _ (by omega)]; exact b1, B16, B512⟩, fun i hi => ?_, ⟨by rw [rx3]; exact e2, ts4, fun i hi => ?_⟩, D1, B3, LE_c (by omega) (fun r a1 a2 => o3 r (by omega)) le, ⟨⟨?_, ?_, ?_, fun q hq => ?_⟩, vWf_lp wV⟩, by rw [rx3]; exact e8, by rw [rx3]; exact e10⟩)
          · exact o23 r (by omega) (by omega) (by omega) (by omega) (by omega) (by omega)
          · rw [o23 _ (by omega) (by omega) (by omega) (by omega) (by omega) (by omega)]; exact hten i hi
          · rw [o23 _ (by omega) (by omega) (by omega) (by omega) (by omega) (by omega)]; exact htp i hi
          · rw [o23 _ (by omega) (by omega) (by omega) (by omega) (by omega) (by omega)]; exact hV.1
          · exact NJ_c (o23 _ (by omega) (by omega) (by omega) (by omega) (by omega) (by omega)) (o23 _ (by omega) (by omega) (by omega) (by omega) (by omega) (by omega)) hV.2.1
          · exact NJ_c (o23 _ (by omega) (by omega) (by omega) (by omega) (by omega) (by omega)) (o23 _ (by omega) (by omega) (by omega) (by omega) (by omega) (by omega)) hV.2.2.1
          · rw [q3 q hq, o2 _ (by omega) (by omega) (by omega) (by omega) (by omega), hV.2.2.2 q hq]
            show _ = (if nb (fso D) (c - j) ≤ q ∧ q < 8 then (0 : Int32) else V.2.2.2 q)
            by_cases w : nb (fso D) (c - j) ≤ q
            · rw [if_pos w, if_pos ⟨w, hq⟩]; rfl
            · rw [if_neg w, if_neg (fun v => w v.1)]
        · have o2 : ∀ r, r < H → r ≠ x + 2 → r ≠ x + 32 → r < L' ∨ L' + 604 ≤ r → r < x + 32 + 1210 ∨ x + 32 + 1226 ≤ r → J2 r = J r := fun r a1 a2 a3 a4 a5 => by rw [fv.1 r a1 a3 a2 a4 a5, r1 r a2]
          have hf1 : HF x h h' := HF_Z hz
          have low1 := HF_low hf1 (show x + 32 ≤ h.1 by omega)
          have hM' := low_CM low1 hM
          obtain ⟨v1, ⟨-, v3, -⟩, -⟩ := id hM'
          have tw' := u'.1.1.1
          have fx' : xP h' (x + 2 + 14) 0 = some (x + 2 + 1) := u'.1.2.2.2.2.2.2.1
          have efx' : fxT h' x = h' := fxT_id fx'
          refine sX10_forget_44 ?_
          refine sX10_forget_45 (fun v => absurd v (oI_neg (by omega))) (fun _ => ?_)
          refine sX10_forget_48 rfl ?_
          refine jX10_forget_49 (by assumption) (by assumption) ?_
          refine sX10_forget_52 rfl ?_
          refine jX10_forget_53 (Nat.le_of_ble_eq_true rfl) (by assumption) ?_
          refine c_resize (so := fso D) u'.1.1 hc (fun i' hi' => ⟨by rw [o2 _ (by omega) (by omega) (by omega) (by omega) (by omega)]; exact (hB.2.2.2 i' hi').1, (hD.2.1 i' hi').1⟩) (fun J3 s1 s2 s3 s4 => ?_)
          have o3 : ∀ r, r < H → r ≠ x + 2 → r ≠ x + 32 → r < L' ∨ L' + 604 ≤ r → r < x + 32 + 1210 ∨ x + 32 + 1226 ≤ r → J3 r = J r := fun r a1 a2 a3 a4 a5 => by rw [s1 r a2, o2 r a1 a2 a3 a4 a5]
          have rx3 : J3 x = J x := o3 x (by omega) (by omega) (by omega) (by omega) (by omega)
          refine sX10_forget_56 ?_
          refine sX10_forget_57 (kB j i h' J3 rfl y0 z hi nf af hf1 (fun r hr => o3 r (by omega) (by omega) (by omega) (by omega) (by omega)) ⟨⟨hM', by rw [efx']; exact u', low_CV low1 hCV, low_CE low1 hCE⟩, fun _ => fx', ⟨by rw [rx3]; exact b0, by rw [s1 _ (by omega), fv.2.2, r1 _ (by omega)]; exact b1, B16, B512⟩, fun i hi => ?_, ⟨by rw [rx3]; exact e2, ts4, fun i hi => ?_⟩, hD, WB_x (fun r a1 a2 a3 => o3 r (by omega) (by omega) (by omega) (by omega) (by omega)) (by rw [s3, hB.2.1]) (by rw [s4, hB.2.2.1]) hB, LE_c hc (fun r a1 a2 => o3 r (by omega) (by omega) (by omega) (by omega) (by omega)) hE, ⟨VJ_c (fun r a1 a2 => o3 r (by omega) (by omega) (by omega) (by omega) (by omega)) hV, wV⟩, by rw [rx3]; exact e8, by rw [rx3]; exact e10⟩)
          · rw [o3 _ (by omega) (by omega) (by omega) (by omega) (by omega)]; exact hten i hi
          · rw [o3 _ (by omega) (by omega) (by omega) (by omega) (by omega)]; exact htp i hi
    · refine sX10_forget_17 ?_
      exact sX10_forget_18 (k0 (Or.inr ⟨j, rfl, z, hj⟩))
/-- the TAPE is the text: tokens stand at its first one -/
theorem c_openText (hI : CI g h J x L L' H B c D T E ts tp V fl gv) (hroom : eO (fte D) c + ts ≤ 10240) (k : ∀ J', JF x H J J' → TJ J' (x + 2 + 14) (x + 2 + 1) (cT (tT T tp (eO (fte D) c) ts) (eO (fte D) c + ts)) (eO (fte D) c + ts) → TS J' (x + 2 + 14) (cT (tT T tp (eO (fte D) c) ts) (eO (fte D) c + ts)) (eO (fte D) c + ts) (tkF (cT (tT T tp (eO (fte D) c) ts) (eO (fte D) c + ts)) (eO (fte D) c + ts) (eO (fte D) c)) → J' (x + 2 + 2) 3 = nI (eO (fce D) c) → CI g (fxT h x) J' x L L' H B c D (tT T tp (eO (fte D) c) ts) E 0 tp V fl gv → Q (some (.int (nI (eO (fte D) c)))) (xJ (fxT h x) J')) : ac g l mX10_openText [.ref x] (xJ h J) Q := by
  refine ac_of (by decide) (Nat.le_of_ble_eq_true rfl) ?_
  obtain ⟨hS, hptr, ⟨b0, b1, B16, B512⟩, hten, ⟨e2, ts4, htp⟩, hD, hB, hE, ⟨hV, wV⟩, e8, e10⟩ := hI
  obtain ⟨gx, hxH, hHh, hW, hQ, hR, lay⟩ := CS_x hS
  obtain ⟨hM, hU, hCV, hCE⟩ := id hS
  obtain ⟨t1, ⟨p1, p3, p4, -⟩, -⟩ := id hM
  obtain ⟨tw, ⟨w0, -⟩, wt, -⟩ := id hW
  obtain ⟨-, t13, ⟨q0, -⟩, -, -, hK⟩ := id hQ
  have q0' : xP h (x + 15) 0 = some (x + 2 + 14) := by rw [fxT_P (by omega)] at q0; exact q0
  have t13' : (xT h (x + 15)).1 = 6 := t13
  have t14 : (xT h (x + 2 + 14)).1 = 8 := hK.1
  have hc := hD.1
  generalize hfr : eO (fte D) c = fr at *
  have hTeq : ∀ q, q < fr → tT T tp fr ts q = T q := fun q hq => by unfold tT; rw [if_neg (by omega)]
  generalize hTT : tT T tp fr ts = TT at *
  refine sX10_openText_0 rfl ?_
  refine jX10_openText_1 (by assumption) (by assumption) ?_
  refine jX10_openText_4 (Nat.le_of_ble_eq_true rfl) (by assumption) ?_
  refine c_textEnd (e := fr) hW hB.2.1 hc (by rw [← hfr]; exact (WB_eO hB).2) ?_
  refine sX10_openText_7 ?_
  refine sX10_openText_8 rfl ?_
  refine jX10_openText_9 (by assumption) (by assumption) ?_
  refine jX10_openText_12 (by assumption) (by assumption) ?_
  refine sX10_openText_15 rfl ?_
  refine jX10_openText_16 (by assumption) (by assumption) ?_
  refine jX10_openText_19 (by assumption) (by assumption) ?_
  refine sX10_openText_22 rfl ?_
  refine sX10_openText_23 rfl ?_
  refine sX10_openText_24 rfl ?_
  refine jX10_openText_25 (Nat.le_of_ble_eq_true rfl) (by assumption) ?_
  refine c_takeTape (ts := ts) (tp := tp) hM hW e2 ts4 hroom hB.1 htp (fun J1 o1 o2 e21 wt1 => ?_)
  rw [hTT] at wt1
  have B1 : WB J1 (x + 2) c D TT := WB_T hD (fun r a1 a2 a3 => o1 r (by omega) a3) wt1 (by rw [hfr]; exact hTeq) hB
  have hC : tOk (cT TT (fr + ts)) (fr + ts) := cT_ok (fun q hq => (wt1 q hq).2) hroom
  show aw g l mX10_openText 28 _ (.int (nI (fr + ts)) :: .int (nI fr) :: .ref (x + 2 + 1) :: .ref (x + 2 + 14) :: []) _ Q
  refine jX10_openText_28 (Nat.le_of_ble_eq_true rfl) (by assumption) ?_
  refine c_begin8 (C := cT TT (fr + ts)) (a := fr) t14 wt hroom (by omega) hC (fun q hq => by rw [cT_in hq]; exact (wt1 q (by omega)).1) (fun J2 o3 tj ts2 => ?_)
  change aw g l mX10_openText 31 _ _ (xJ (fxT h x) J2) Q
  have hM0 : CM (fxT h x) x := CM_f hM
  have hf0 : fxT (fxT h x) x = fxT h x := fxT_2
  have fx0 : xP (fxT h x) (x + 2 + 14) 0 = some (x + 2 + 1) := xs_s
  have hCV0 := low_CV (low_f (x := x) (h := h)) hCV
  have hCE0 := low_CE (low_f (x := x) (h := h)) hCE
  have B2 : WB J2 (x + 2) c D TT := WB_x (fun r a1 a2 a3 => o3 r (by omega)) (by rw [o3 _ (by omega)]) (by rw [o3 _ (by omega)]) B1
  generalize hh0 : fxT h x = h0 at *
  obtain ⟨z1, ⟨y1, y3, y4, -⟩, -⟩ := id hM0
  obtain ⟨tw0, ⟨-, w1, -⟩, -, -, tc, -⟩ := id hQ.1
  refine sX10_openText_31 rfl ?_
  refine jX10_openText_32 (by assumption) (by assumption) ?_
  refine jX10_openText_35 (by assumption) (by assumption) ?_
  refine sX10_openText_38 rfl ?_
  refine jX10_openText_39 (by assumption) (by assumption) ?_
  refine jX10_openText_42 (Nat.le_of_ble_eq_true rfl) (by assumption) ?_
  refine c_codeEnd (e := eO (fce D) c) hQ.1 B2.2.1 hc (WB_eO B2).1 ?_
  refine jX10_openText_45 (by assumption) ?_
  refine sX10_openText_48 rfl ?_
  have hi : ∀ r, x + 20 ≤ r → xup2 J2 (x + 2 + 2) 3 (nI (eO (fce D) c)) r = J r := fun r hr => by rw [xup2_r (by omega), o3 r (by omega), o1 r (by omega) (by omega)]
  have rx : xup2 J2 (x + 2 + 2) 3 (nI (eO (fce D) c)) x = J1 x := by rw [xup2_r (by omega), o3 x (by omega)]
  have lo1 : ∀ r, r < x → xup2 J2 (x + 2 + 2) 3 (nI (eO (fce D) c)) r = J r := fun r hr => by rw [xup2_r (by omega), o3 r (by omega), o1 r (by omega) (by omega)]
  refine sX10_openText_49 (k _ (fun r hr => ?_) (TJ_c (xup2_r (by omega)) (by rw [xup2_r (by omega)]) tj) (by unfold TS at ts2 ⊢; rw [xup2_r (by omega)]; exact ts2) xup2_s ⟨⟨hM0, by rw [hf0]; exact hU, hCV0, hCE0⟩, fun _ => fx0, ⟨by rw [rx, o2 0 (by decide)]; exact b0, by rw [hi _ (by omega)]; exact b1, B16, B512⟩, fun i hi' => by rw [lo1 _ gx]; exact hten i hi', ⟨by rw [rx]; exact e21, by decide, fun i hi' => by omega⟩, hD, WB_x (fun r a1 a2 a3 => xup2_r a3) (by rw [xup2_r (by omega)]) (by rw [xup2_r (by omega)]) B2, LE_c hc (fun r a1 a2 => hi r (by omega)) hE, ⟨VJ_c (fun r a1 a2 => hi r (by omega)) hV, wV⟩, by rw [rx, o2 8 (by decide)]; exact e8, by rw [rx, o2 10 (by decide)]; exact e10⟩)
  rcases hr with hr | hr
  · exact lo1 r hr
  · exact hi r (by omega)
/-- what was read, is reckoned -/
theorem c_answerText {gd : Int32} {e fr m : Nat} {C : Nat → Nat} {Ls : List St} (hI : CI g h J x L L' H B c D T E ts tp V fl gv) (hfx : fxT h x = h) (hK : KN B c D E) (hgd : gd = 0 ∨ gd = 1) (hTS : TS J (x + 2 + 14) C m e) (hfe : fr ≤ e)
    (kS : (gd = 0 ∨ tkK C m e ≠ 0) → ∀ J', JF x H J J' → CI g h J' x L L' H B c D T E ts tp V 1 gv → Q (some (.int (-10 - nI (e - fr)))) (xJ h J'))
    (hR : gd = 1 → tkK C m e = 0 → tOk C m ∧ m ≤ 10240 ∧ (∀ q, q < m → T q = C q) ∧ sg J (x + 2) (eO (fce D) c) Ls ∧ J (x + 2 + 2) 3 = nI (eO (fce D) c + Ls.length) ∧ eO (fce D) c + Ls.length ≤ 13668 ∧ dk C m 0 66 1 Ls 0 ∧ ∀ s ∈ Ls, fr ≤ s.2.1)
    (kF : gd = 1 → tkK C m e = 0 → ∀ h' J' f p, exe B C m E (mng (fso D) (fln D) (fnm D) c C) Ls [] = rBad f p → f ≠ 0 → f < 100 → HF x h h' → JF x H J J' → CI g h' J' x L L' H B c D T E ts tp V f gv → Q (some (.int (-10 - nI (p - fr)))) (xJ h' J'))
    (kV : gd = 1 → tkK C m e = 0 → ∀ h' J' v, exe B C m E (mng (fso D) (fln D) (fnm D) c C) Ls [] = rOk [v] → HF x h h' → JF x H J J' → CI g h' J' x L L' H B c D T E ts tp v 0 (gv + 1) → Q (some (.int (nI 1))) (xJ h' J')) : ac g l mX10_answerText [.ref x, .int (nI fr), .int gd] (xJ h J) Q := by
  refine ac_of (by decide) (Nat.le_of_ble_eq_true rfl) ?_
  obtain ⟨hS, hptr, ⟨b0, b1, B16, B512⟩, hten, ⟨e2, ts4, htp⟩, hD, hB, hE, ⟨hV, wV⟩, e8, e10⟩ := hI
  obtain ⟨gx, hxH, hHh, hW, hQ, hCR, lay⟩ := CS_x hS
  obtain ⟨hM, hU, hCV, hCE⟩ := id hS
  rw [hfx] at hU hQ hCR
  obtain ⟨t1, ⟨p1, p3, p4, p5, p6, p7⟩, -⟩ := id hM
  obtain ⟨tw, ⟨w0, w1, -⟩, -, -, tc, -⟩ := id hW
  obtain ⟨-, t13, ⟨q0, -⟩, -, -, hCK⟩ := id hQ
  have q0' : xP h (x + 15) 0 = some (x + 2 + 14) := q0
  have t13' : (xT h (x + 15)).1 = 6 := t13
  have t14 : (xT h (x + 2 + 14)).1 = 8 := hCK.1
  have p5' : xP h x 5 = some (x + 32) := p5
  have t7 := hCR.1
  have hc := hD.1
  have fx0 : xP h (x + 2 + 14) 0 = some (x + 2 + 1) := hCK.2.1
  have syn : ∀ lv0 : List (Nat × Value), (gd = 0 ∨ tkK C m e ≠ 0) → (∀ z ∈ ([(0, .ref x), (1, .int (nI fr))] : List (Nat × Value)), z ∈ lv0) → aw g l mX10_answerText 17 lv0 [] (xJ h J) Q := by
    intro lv0 hs hlv
    refine aw_lv hlv ?_
    refine sX10_answerText_17 rfl ?_
    refine nX10_answerText_18 ?_
    refine jX10_answerText_19 (by assumption) ?_
    refine sX10_answerText_22 ?_
    refine sX10_answerText_24 rfl ?_
    refine jX10_answerText_25 (by assumption) (by assumption) ?_
    refine jX10_answerText_28 (by assumption) (by assumption) ?_
    refine jX10_answerText_31 (by assumption) ?_
    rw [xup2_r (by omega), hTS.1]
    refine sX10_answerText_34 rfl ?_
    refine nX10_answerText_35 (by omega) ?_
    refine sX10_answerText_36 ?_
    have o : ∀ r, r ≠ x → xup2 J x 8 (nI 1) r = J r := fun r hr => xup2_r hr
    have ox : ∀ j, j ≠ 8 → xup2 J x 8 (nI 1) x j = J x j := fun j hj => xup2_n hj
    refine sX10_answerText_37 (kS hs _ (fun r hr => o r (by omega)) ⟨hS, hptr, ⟨by rw [ox 0 (by decide)]; exact b0, by rw [o _ (by omega)]; exact b1, B16, B512⟩, fun i hi => by rw [o _ (by omega)]; exact hten i hi, ⟨by rw [ox 2 (by decide)]; exact e2, ts4, fun i hi => by rw [o _ (by omega)]; exact htp i hi⟩, hD, WB_x (fun r _ _ _ => o r (by omega)) (by rw [o _ (by omega)]) (by rw [o _ (by omega)]) hB, LE_c hc (fun r _ _ => o r (by omega)) hE, ⟨VJ_c (fun r _ _ => o r (by omega)) hV, wV⟩, xup2_s, by rw [ox 10 (by decide)]; exact e10⟩)
  have kb := (tkK_big C m e).1
  refine sX10_answerText_0 rfl ?_
  rcases hgd with rfl | rfl
  · exact sX10_answerText_1 (fun _ => syn _ (Or.inl rfl) (fun z hz => by simp only [List.mem_cons, List.not_mem_nil, or_false] at hz; rcases hz with rfl | rfl <;> exact xlk_mem rfl)) (fun y => absurd rfl y)
  refine sX10_answerText_1 (fun y => absurd y (by decide)) (fun _ => ?_)
  refine sX10_answerText_4 rfl ?_
  refine jX10_answerText_5 (by assumption) (by assumption) ?_
  refine jX10_answerText_8 (by assumption) (by assumption) ?_
  refine jX10_answerText_11 (by assumption) ?_
  rw [hTS.2.1]
  refine nX10_answerText_14 (by omega) (fun z => ?_) (fun z => syn _ (Or.inr z) (fun z hz => by simp only [List.mem_cons, List.not_mem_nil, or_false] at hz; rcases hz with rfl | rfl <;> exact xlk_mem rfl))
  obtain ⟨hC, hm, hTC, hsg, hsz, hln, hdk, hpl⟩ := hR rfl z
  refine sX10_answerText_38 rfl ?_
  refine jX10_answerText_39 (by assumption) (by assumption) ?_
  refine nX10_answerText_42 ?_
  refine jX10_answerText_43 (by assumption) ?_
  generalize hJ1 : xup2 J (x + 32) 4 (nI 0) = J1
  have o1 : ∀ r, r ≠ x + 32 → J1 r = J r := fun r hr => by rw [← hJ1, xup2_r hr]
  have B1 : WB J1 (x + 2) c D T := WB_x (fun r _ _ _ => o1 r (by omega)) (by rw [o1 _ (by omega)]) (by rw [o1 _ (by omega)]) hB
  have wd := WB_D hD B1
  refine sX10_answerText_46 rfl ?_
  refine jX10_answerText_47 (by assumption) (by assumption) ?_
  refine sX10_answerText_50 rfl ?_
  refine jX10_answerText_51 (by assumption) (by assumption) ?_
  refine sX10_answerText_54 rfl ?_
  refine jX10_answerText_55 (by assumption) (by assumption) ?_
  refine jX10_answerText_58 (Nat.le_of_ble_eq_true rfl) (by assumption) ?_
  refine c_codeEnd (e := eO (fce D) c) hW B1.2.1 hc (WB_eO B1).1 ?_
  refine sX10_answerText_61 rfl ?_
  refine jX10_answerText_62 (by assumption) (by assumption) ?_
  refine jX10_answerText_65 (by assumption) (by assumption) ?_
  refine jX10_answerText_68 (by assumption) ?_
  rw [o1 _ (by omega), hsz]
  refine jX10_answerText_71 (Nat.le_of_ble_eq_true rfl) (by assumption) ?_
  -- behind the run
  have keep : ∀ (h' : xH) (J2 : Nat → Nat → Int32), hX (x + 32) h h' → SH h' (x + 32) H → fU (x + 2) (x + 32) H J1 J2 → HF x h h' ∧ UC g h' (x + 2) (x + 32) L L' H ∧ (∀ r, r < H → r ≠ x + 2 → r ≠ x + 32 → r < x + 32 + 1213 ∨ x + 32 + 1226 ≤ r → J2 r = J r) ∧ WB J2 (x + 2) c D T ∧ J2 (x + 32 + 1213) 0 = nI B := by
    intro h' J2 hx sh fu
    refine ⟨HF_X hx, UC_x hx sh hU, fun r a1 a2 a3 a4 => by rw [fu.1 r a1 a3 a2 a4, o1 r a3], WB_x (fun r a1 a2 a3 => fu.1 r (by omega) (by omega) (by omega) (by omega)) (fu.2.1 9 (by decide) (by decide)) (fu.2.1 10 (by decide) (by decide)) B1, by rw [fu.2.2.2, o1 _ (by omega)]; exact b1⟩
  refine c_run (E := E) (C := C) (m := m) (lo := 0) (kE := 1) (U0 := []) (W := []) (T := T) hU (LE_c hc (fun r a1 a2 => o1 r (by omega)) hE) B1.1 wd.2.1 wd.2.2.2 hC hm (fun q _ hq => hTC q hq) ⟨hU.2.2.2.2.2.2, fun i hi => by rw [o1 _ (by omega)]; exact hten i hi⟩ (by rw [o1 _ (by omega)]; exact b1) B16 B512 (by decide) (sg_same (o1 _ (by omega)) (o1 _ (by omega)) (o1 _ (by omega)) hsg) hln hdk (by decide) (by rw [← hJ1, xup2_s]; rfl) trivial (fun h' J2 U' hx sh fu ex f10 f4 sj ul => ?_) (fun h' J2 f p hx sh fu ex f0 f1 f10 f11 sj => ?_) (fun h' J2 j L1 L2 U2 hx sh fu e1 e2' e3 e4 e5 hj ej => ?_)
  · obtain ⟨hf1, u1, o2, B2, b2⟩ := keep h' J2 hx sh fu
    obtain ⟨v, hv⟩ : ∃ v, U' = [v] := by
      cases U' with
      | nil => cases ul
      | cons v V =>
        cases V with
        | nil => exact ⟨v, rfl⟩
        | cons y V => exact absurd ul (by show ¬ V.length + 1 + 1 = 1; omega)
    subst hv
    have low1 := HF_low hf1 (show x + 32 ≤ h.1 by omega)
    have hM' := low_CM low1 hM
    have hCV' := low_CV low1 hCV
    obtain ⟨v1, ⟨-, v3, -, v5, -, v7⟩, -⟩ := id hM'
    have v5' : xP h' x 5 = some (x + 32) := v5
    obtain ⟨t7', ⟨-, -, -, r3, -⟩, -⟩ := id u1.2.1
    obtain ⟨⟨q, hq, vq, wq⟩, -⟩ := id sj
    have hq0 : xP h' (x + 32 + 1209) 0 = some q := hq
    obtain ⟨sq1, sq2, sq3, sq4⟩ := sh.2.2.2.1 0 q (by decide) hq0
    have fx1 : xP h' (x + 2 + 14) 0 = some (x + 2 + 1) := u1.1.2.2.2.2.2.2.1
    refine sX10_answerText_74 rfl ?_
    refine sX10_answerText_75 rfl ?_
    refine sX10_answerText_76 rfl ?_
    refine jX10_answerText_77 (by assumption) (by assumption) ?_
    refine jX10_answerText_80 (by assumption) ?_
    rw [f10]
    refine jX10_answerText_83 (by assumption) ?_
    refine sX10_answerText_86 rfl ?_
    refine jX10_answerText_87 (by assumption) ?_
    rw [xup2_s]
    refine nX10_answerText_90 (by decide) (fun _ => ?_) (fun y => absurd rfl y)
    generalize hJ3 : xup2 J2 x 8 (nI 0) = J3
    have o3 : ∀ r, r ≠ x → J3 r = J2 r := fun r hr => by rw [← hJ3, xup2_r hr]
    refine sX10_answerText_106 rfl ?_
    refine jX10_answerText_107 (by assumption) (by assumption) ?_
    refine sX10_answerText_110 rfl ?_
    refine jX10_answerText_111 (by assumption) (by assumption) ?_
    refine nX10_answerText_114 ?_
    refine jX10_answerText_115 (Nat.le_of_ble_eq_true rfl) (by assumption) ?_
    refine c_slotS sh t7' r3 (by decide) hq0 ?_
    have t9 := hCV'.1
    show aw g l mX10_answerText 118 _ (.ref q :: .ref (x + 26) :: []) (xJ h' J3) Q
    refine jX10_answerText_118 (Nat.le_of_ble_eq_true rfl) (by assumption) ?_
    refine c_copy9 hCV' sq3 (by omega) (VJ_c (fun r a1 a2 => o3 r (by omega)) vq) (fun J4 o4 v4 => ?_)
    have rx4 : ∀ j, j ≠ 8 → J4 x j = J x j := fun j hj => by rw [o4 x (by omega), ← hJ3, xup2_n hj, o2 x (by omega) (by omega) (by omega) (by omega)]
    have e48 : J4 x 8 = nI 0 := by rw [o4 x (by omega), ← hJ3, xup2_s]
    refine sX10_answerText_121 rfl ?_
    refine sX10_answerText_122 rfl ?_
    refine jX10_answerText_123 (by assumption) ?_
    rw [rx4 10 (by decide), e10]
    refine nX10_answerText_126 ?_
    refine nX10_answerText_127 ?_
    refine jX10_answerText_128 (by assumption) ?_
    refine nX10_answerText_131 ?_
    generalize hJ5 : xup2 J4 x 10 (nI (gv + 1)) = J5
    have o5 : ∀ r, r ≠ x → J5 r = J4 r := fun r hr => by rw [← hJ5, xup2_r hr]
    have x5 : ∀ j, j ≠ 10 → J5 x j = J4 x j := fun j hj => by rw [← hJ5, xup2_n hj]
    have o45 : ∀ r, r ≠ x → r < x + 26 ∨ x + 32 ≤ r → J5 r = J2 r := fun r a1 a2 => by rw [o5 r a1, o4 r a2, o3 r a1]
    have o05 : ∀ r, r ≠ x → r < x + 26 ∨ x + 32 < r → r < H → r ≠ x + 2 → r < x + 32 + 1213 ∨ x + 32 + 1226 ≤ r → J5 r = J r := fun r a1 a2 a3 a4 a5 => by rw [o45 r a1 (by omega), o2 r a3 a4 (by omega) a5]
    refine sX10_answerText_132 (kV rfl z h' J5 v ex hf1 (fun r hr => o05 r (by omega) (by omega) (by omega) (by omega) (by omega)) ⟨⟨hM', by rw [fxT_id fx1]; exact u1, hCV', low_CE low1 hCE⟩, fun _ => fx1, ⟨by rw [x5 0 (by decide), rx4 0 (by decide)]; exact b0, by rw [o45 _ (by omega) (by omega)]; exact b2, B16, B512⟩, fun i hi => by rw [o05 _ (by omega) (by omega) (by omega) (by omega) (by omega)]; exact hten i hi, ⟨by rw [x5 2 (by decide), rx4 2 (by decide)]; exact e2, ts4, fun i hi => by rw [o05 _ (by omega) (by omega) (by omega) (by omega) (by omega)]; exact htp i hi⟩, hD, WB_x (fun r _ _ _ => o45 r (by omega) (by omega)) (by rw [o45 _ (by omega) (by omega)]) (by rw [o45 _ (by omega) (by omega)]) B2, LE_c hc (fun r a1 a2 => o05 r (by omega) (by omega) (by omega) (by omega) (by omega)) hE, ⟨VJ_c (fun r _ _ => o5 r (by omega)) v4, wq⟩, by rw [x5 8 (by decide)]; exact e48, by rw [← hJ5, xup2_s]⟩)
  · obtain ⟨hf1, u1, o2, B2, b2⟩ := keep h' J2 hx sh fu
    have low1 := HF_low hf1 (show x + 32 ≤ h.1 by omega)
    have hM' := low_CM low1 hM
    obtain ⟨v1, ⟨-, v3, -, v5, -, v7⟩, -⟩ := id hM'
    have v5' : xP h' x 5 = some (x + 32) := v5
    have t7' := u1.2.1.1
    have fx1 : xP h' (x + 2 + 14) 0 = some (x + 2 + 1) := u1.1.2.2.2.2.2.2.1
    obtain ⟨s, hs, es⟩ := exe_pl f0 ex
    have hfp : fr ≤ p := by have := hpl s hs; omega
    refine sX10_answerText_74 rfl ?_
    refine sX10_answerText_75 rfl ?_
    refine sX10_answerText_76 rfl ?_
    refine jX10_answerText_77 (by assumption) (by assumption) ?_
    refine jX10_answerText_80 (by assumption) ?_
    rw [f10]
    refine jX10_answerText_83 (by assumption) ?_
    refine sX10_answerText_86 rfl ?_
    refine jX10_answerText_87 (by assumption) ?_
    rw [xup2_s]
    refine nX10_answerText_90 (by omega) (fun y => absurd y f0) (fun _ => ?_)
    refine sX10_answerText_93 ?_
    refine sX10_answerText_95 rfl ?_
    refine jX10_answerText_96 (by assumption) (by assumption) ?_
    refine jX10_answerText_99 (by assumption) ?_
    rw [xup2_r (by omega), f11]
    refine sX10_answerText_102 rfl ?_
    refine nX10_answerText_103 (by omega) ?_
    refine sX10_answerText_104 ?_
    have o3 : ∀ r, r ≠ x → xup2 J2 x 8 (nI f) r = J2 r := fun r hr => xup2_r hr
    have x3 : ∀ j, j ≠ 8 → xup2 J2 x 8 (nI f) x j = J x j := fun j hj => by rw [xup2_n hj, o2 x (by omega) (by omega) (by omega) (by omega)]
    have o03 : ∀ r, r ≠ x → r < H → r ≠ x + 2 → r ≠ x + 32 → r < x + 32 + 1213 ∨ x + 32 + 1226 ≤ r → xup2 J2 x 8 (nI f) r = J r := fun r a1 a2 a3 a4 a5 => by rw [o3 r a1, o2 r a2 a3 a4 a5]
    refine sX10_answerText_105 (kF rfl z h' _ f p ex f0 f1 hf1 (fun r hr => o03 r (by omega) (by omega) (by omega) (by omega) (by omega)) ⟨⟨hM', by rw [fxT_id fx1]; exact u1, low_CV low1 hCV, low_CE low1 hCE⟩, fun _ => fx1, ⟨by rw [x3 0 (by decide)]; exact b0, by rw [o3 _ (by omega)]; exact b2, B16, B512⟩, fun i hi => by rw [o03 _ (by omega) (by omega) (by omega) (by omega) (by omega)]; exact hten i hi, ⟨by rw [x3 2 (by decide)]; exact e2, ts4, fun i hi => by rw [o03 _ (by omega) (by omega) (by omega) (by omega) (by omega)]; exact htp i hi⟩, hD, WB_x (fun r _ _ _ => o3 r (by omega)) (by rw [o3 _ (by omega)]) (by rw [o3 _ (by omega)]) B2, LE_c hc (fun r a1 a2 => o03 r (by omega) (by omega) (by omega) (by omega) (by omega)) hE, ⟨VJ_c (fun r a1 a2 => o03 r (by omega) (by omega) (by omega) (by omega) (by omega)) hV, wV⟩, xup2_s, by rw [x3 10 (by decide)]; exact e10⟩)
  · obtain ⟨r, er, -⟩ := hK j hj
    rw [er] at ej
    cases ej
end CReck
