/-! ===== the reference's readNumber, readName, readRaise ===== -/
def fR (K K' : Nat → Nat → Int32) : Prop := (∀ r, r ≠ 0 → r ≠ 1 → r ≠ 2 → r ≠ 3 → K' r = K r) ∧ ∀ j, j < 22 ∨ j = 27 ∨ j = 28 ∨ 31 < j → K' 0 j = K 0 j
def fS (S S' : Nat → Vl) : Prop := ∀ w, w < 63 ∨ 64 < w → w ≠ 66 → S' w = S w
theorem fR_ro {K K' : Nat → Nat → Int32} (h : ro K K') : fR K K' := ⟨fun r a _ _ _ => h.1 r a, fun j hj => h.2 j (by omega) (by omega) (by omega)⟩
theorem fR_3 {K K' : Nat → Nat → Int32} (h : xo3 K K') : fR K K' := ⟨fun r _ a b c => h r a b c, fun j _ => by rw [h 0 (by decide) (by decide) (by decide)]⟩
theorem fR_t {K K1 K2 : Nat → Nat → Int32} (h : fR K K1) (h' : fR K1 K2) : fR K K2 := ⟨fun r a b c d => (h'.1 r a b c d).trans (h.1 r a b c d), fun j hj => (h'.2 j hj).trans (h.2 j hj)⟩
theorem fR_r (K : Nat → Nat → Int32) : fR K K := ⟨fun _ _ _ _ _ => rfl, fun _ _ => rfl⟩
theorem fR_w {K : Nat → Nat → Int32} {f p : Int32} : fR K (xup2 (xup2 K 0 29 f) 0 30 p) := ⟨fun r a _ _ _ => by rw [xup2_r a, xup2_r a], fun j hj => by rw [xup2_n (by omega), xup2_n (by omega)]⟩
theorem RT_R {K K' : Nat → Nat → Int32} {C : Nat → Nat} {m d n lo : Nat} (o : fR K K') (hT : RT K C m d n lo) : RT K' C m d n lo :=
  RT_c (o.2 20 (by decide)) (o.2 21 (by decide)) (o.1 4 (by decide) (by decide) (by decide) (by decide)) (o.1 11 (by decide) (by decide) (by decide) (by decide)) hT
theorem RX_ro {K K' : Nat → Nat → Int32} {N : Nat → Nat} {S : Nat → Vl} (o : ro K K') (h : RX K N S) : RX K' N S := RX_row (o.1 1 (by decide)) (o.1 2 (by decide)) (o.1 3 (by decide)) h
theorem fS_r (S : Nat → Vl) : fS S S := fun _ _ _ => rfl
theorem fS_t {S S1 S2 : Nat → Vl} (h : fS S S1) (h' : fS S1 S2) : fS S S2 := fun w a c => (h' w a c).trans (h w a c)
theorem fS_up {S : Nat → Vl} {w : Nat} {v : Vl} (hw : w = 63 ∨ w = 64 ∨ w = 66) : fS S (va_up S w v) := fun u a c => vup_n (by omega)
def opA (C : Nat → Nat) (m a : Nat) : List St := if tkK C m (nx C m a) = 124 then [(3, a, tlen C m a), (3, nx C m (nx C m a), tlen C m (nx C m (nx C m a))), (15, nx C m a, 0)] else [(3, a, tlen C m a)]
def opE (C : Nat → Nat) (m a : Nat) : Nat := if tkK C m (nx C m a) = 124 then tkT C m (nx C m (nx C m a)) else tkT C m a
/-- what the reference knows of the DEFINITIONS -/
def RE (K : Nat → Nat → Int32) (S : Nat → Vl) (E : Nat → Option (Nat × Vl)) (c : Nat) : Prop := ∀ k, k < c → (E k = none → K 13 k ≠ nI 1) ∧ ∀ r, E k = some r → K 13 k = nI 1 ∧ K 12 k = nI r.1 ∧ r.1 < 100 ∧ (r.1 = 0 → S (68 + k) = r.2 ∧ vWf r.2)
section RefRead
variable {g : xG} {l : Launch} {h : xH} {b : Nat} {K : Nat → Nat → Int32} {N : Nat → Nat} {S : Nat → Vl} {Q : Option Value → xH → Prop} {C : Nat → Nat} {m d n lo B : Nat} {E : Nat → Option (Nat × Vl)} {mg : Nat → Nat → Option Nat × Option Nat}
theorem c_readNumber11 {a : Nat} {rc : Bool} (hS : RS h b) (hX : RX K N S) (hT : RT K C m d n lo) (hL : RLx K C m d lo a) (h3 : tkK C m a = 3) (h27 : K 0 27 = if rc = true then 1 else 0) (h29 : K 0 29 = nI 0) (hB : K 0 0 = nI B) (hB0 : 16 ≤ B) (hB2 : B ≤ 512) (hok : rc = true → tkK C m (nx C m a) = 124 → tkK C m (nx C m (nx C m a)) = 3)
    (kOk : ∀ K' N' S', fR K K' → fS S S' → RX K' N' S' → RT K' C m d n lo → K' 0 29 = nI 0 → K' 0 31 = K 0 31 → (tkK C m (nx C m a) = 124 → tkK C m (nx C m (nx C m a)) = 3) → (rc = true → vWf (S' 63) ∧ ∀ L V, exe B C m E mg (opA C m a ++ L) V = exe B C m E mg L (S' 63 :: V)) → (rc = false → N' = N ∧ S' = S) → Q (some (.int (nI (opE C m a - d)))) (xB h b K'))
    (kBad : ∀ K' N' S' f p ret, rc = true → fR K K' → fS S S' → RX K' N' S' → f ≠ 0 → f < 100 → K' 0 29 = nI f → K' 0 30 = nI (p - d) → K' 0 31 = K 0 31 → (∀ L V, exe B C m E mg (opA C m a ++ L) V = rBad f p) → Q (some (.int ret)) (xB h b K'))
    (kRej : ∀ K' ret, rc = false → tkK C m (nx C m a) = 124 → tkK C m (nx C m (nx C m a)) ≠ 3 → fR K K' → RX K' N S → RT K' C m d n lo → K' 0 29 = nI 1 → K' 0 30 = nI (nx C m (nx C m a) - d) → K' 0 31 = K 0 31 → Q (some (.int ret)) (xB h b K')) : ac g l mX11_readNumber [.ref b] (xB h b K) Q := by
  refine ac_of (by decide) (Nat.le_of_ble_eq_true rfl) ?_
  have hC := hT.1
  have hm := hC.1
  have hnd : n + d = m := hT.2.1
  obtain ⟨l1, l2, l3, l4, l5⟩ := hL
  obtain ⟨ham, -, -, -, eT⟩ := nt_a h3
  have tg := tkT_gt (C := C) ham
  have tl := tkT_le hC l2
  have ng := nx_gt (C := C) ham
  have nl : nx C m a ≤ m := nx_le hC l2
  -- behind the first number
  have second : ∀ (K1 : Nat → Nat → Int32) (N1 : Nat → Nat) (S1 : Nat → Vl) (lv0 : List (Nat × Value)), fR K K1 → fS S S1 → RX K1 N1 S1 → K1 0 29 = nI 0 → K1 0 31 = K 0 31 → (rc = true → (nuV B C m a).1 = 0 ∧ S1 63 = (nuV B C m a).2) → (rc = false → N1 = N ∧ S1 = S) → (∀ z ∈ ([(0, .ref b), (1, .int (nI (a - d))), (2, .int (nI (tkT C m a - d)))] : List (Nat × Value)), z ∈ lv0) → aw g l mX11_readNumber 35 lv0 [] (xB h b K1) Q := by
    intro K1 N1 S1 lv0 o1 s1 x1 w1 y1 hv hv' hlv
    refine aw_lv hlv ?_
    have hT1 := RT_R o1 hT
    refine sX11_readNumber_35 rfl ?_
    refine sX11_readNumber_36 rfl ?_
    refine tX11_readNumber_37 hS (Nat.le_of_ble_eq_true rfl) ?_
    refine c_lex hS hT1 (by omega) (by omega) (fun K2 o2 t2 l2' => ?_)
    rw [show tkT C m a - d + d = tkT C m a by omega] at l2'
    have F2 : fR K K2 := fR_t o1 (fR_ro o2)
    have w2 : K2 0 29 = nI 0 := by rw [o2.2 29 (by decide) (by decide) (by decide)]; exact w1
    have y2 : K2 0 31 = K 0 31 := by rw [o2.2 31 (by decide) (by decide) (by decide)]; exact y1
    have x2 : RX K2 N1 S1 := RX_ro o2 x1
    refine sX11_readNumber_40 rfl ?_
    refine nX11_readNumber_41 ?_
    refine tX11_readNumber_43 hS (Nat.le_of_ble_eq_true rfl) ?_
    refine c_isSign11 hS t2 l2' (by decide) (by decide) (fun z => ?_) (fun z => ?_)
    · have z' : tkK C m (nx C m a) = 124 := z
      refine sX11_readNumber_46 (fun _ => ?_) (fun y => absurd y (by decide))
      have n1m : nx C m a < m := tkK_lt (C := C) (by omega)
      have nl2 : nx C m (nx C m a) ≤ m := nx_le hC nl
      have ng2 := nx_gt (C := C) n1m
      have tg2 := tkT_gt (C := C) n1m
      have tl2 := tkT_le hC nl
      have e23 : K2 0 23 = nI (nx C m a - d) := l2'.2.2.1
      have e24 : K2 0 24 = nI (tkT C m (nx C m a) - d) := l2'.2.2.2.1
      refine sX11_readNumber_51 rfl ?_
      refine tX11_readNumber_52 hS ?_
      rw [e23]
      refine sX11_readNumber_55 ?_
      refine sX11_readNumber_56 rfl ?_
      refine sX11_readNumber_57 rfl ?_
      refine tX11_readNumber_58 hS ?_
      rw [e24]
      refine tX11_readNumber_61 hS (Nat.le_of_ble_eq_true rfl) ?_
      refine c_lex hS t2 (by omega) (by omega) (fun K3 o3 t3 l3' => ?_)
      rw [show tkT C m (nx C m a) - d + d = tkT C m (nx C m a) by omega] at l3'
      have l3'' : RLx K3 C m d lo (nx C m (nx C m a)) := l3'
      obtain ⟨v1, v2, v3, v4, v5⟩ := l3''
      have F3 : fR K K3 := fR_t F2 (fR_ro o3)
      have w3 : K3 0 29 = nI 0 := by rw [o3.2 29 (by decide) (by decide) (by decide)]; exact w2
      have y3 : K3 0 31 = K 0 31 := by rw [o3.2 31 (by decide) (by decide) (by decide)]; exact y2
      have x3 : RX K3 N1 S1 := RX_ro o3 x2
      have kb := tkK_big C m (nx C m (nx C m a))
      refine sX11_readNumber_64 rfl ?_
      refine tX11_readNumber_65 hS ?_
      rw [v5]
      refine nX11_readNumber_68 ?_
      refine nX11_readNumber_69 (by split <;> omega) (by decide) (fun u => ?_) (fun u => ?_)
      · have u3 : tkK C m (nx C m (nx C m a)) = 3 := by split at u <;> omega
        have n2m : nx C m (nx C m a) < m := tkK_lt (C := C) (by omega)
        have tg3 := tkT_gt (C := C) n2m
        have eO : opE C m a = tkT C m (nx C m (nx C m a)) := by unfold opE; rw [if_pos z']
        have eA : opA C m a = [(3, a, tlen C m a), (3, nx C m (nx C m a), tlen C m (nx C m (nx C m a))), (15, nx C m a, 0)] := by unfold opA; rw [if_pos z']
        refine sX11_readNumber_87 rfl ?_
        refine tX11_readNumber_88 hS ?_
        rw [F3.2 27 (by decide), h27]
        cases rc with
        | false =>
          rw [if_neg (by decide)]
          refine sX11_readNumber_91 (fun y => absurd rfl y) (fun _ => ?_)
          refine sX11_readNumber_94 rfl ?_
          refine tX11_readNumber_95 hS ?_
          rw [v4, ← eO]
          exact sX11_readNumber_98 (kOk K3 N1 S1 F3 s1 x3 t3 w3 y3 (fun _ => u3) (fun y => by cases y) hv')
        | true =>
          rw [if_pos rfl]
          obtain ⟨hv0, hv1⟩ := hv rfl
          have wf1 : vWf (S1 63) := by rw [hv1]; exact vWf_num hB2 hv0
          refine sX11_readNumber_91 (fun _ => ?_) (fun y => absurd y (by decide))
          refine sX11_readNumber_99 rfl ?_
          refine tX11_readNumber_100 hS ?_
          rw [v4]
          refine sX11_readNumber_103 ?_
          refine sX11_readNumber_104 rfl ?_
          refine sX11_readNumber_105 rfl ?_
          refine nX11_readNumber_106 ?_
          refine sX11_readNumber_108 rfl ?_
          refine tX11_readNumber_109 hS ?_
          rw [v3]
          refine sX11_readNumber_112 rfl ?_
          refine tX11_readNumber_113 hS ?_
          rw [v4]
          have eT3 := (nt_a u3).2.2.2.2
          rw [eT3]
          refine tX11_readNumber_116 hS (Nat.le_of_ble_eq_true rfl) ?_
          refine c_numberOf hS x3 t3 (by decide) (by omega) u3 (by rw [F3.2 0 (by decide)]; exact hB) hB0 hB2 (fun K4 N4 o4 p4 => ?_)
          have o40 : K4 0 = K3 0 := o4 0 (by decide) (by decide) (by decide)
          have cb := cd_num (B := B) (C := C) (m := m) (a := nx C m (nx C m a))
          refine sX11_readNumber_119 rfl ?_
          refine tX11_readNumber_120 hS ?_
          rw [o40, v3]
          refine tX11_readNumber_123 hS (Nat.le_of_ble_eq_true rfl) ?_
          refine c_fails hS (by omega) (by rw [o40]; exact w3) (fun q0 => ?_) (fun q0 => ?_)
          · refine sX11_readNumber_126 (fun _ => ?_) (fun y => absurd rfl y)
            have x4 := p4.2 q0
            have wf2 := vWf_num hB2 q0
            refine sX11_readNumber_131 rfl ?_
            refine sX11_readNumber_132 rfl ?_
            refine nX11_readNumber_133 ?_
            refine nX11_readNumber_135 ?_
            refine sX11_readNumber_137 ?_
            refine tX11_readNumber_138 hS (Nat.le_of_ble_eq_true rfl) ?_
            have e63 : (va_up S1 64 (nuV B C m (nx C m (nx C m a))).2) 63 = (nuV B C m a).2 := by rw [vup_n (by decide)]; exact hv1
            have e64 : (va_up S1 64 (nuV B C m (nx C m (nx C m a))).2) 64 = (nuV B C m (nx C m (nx C m a))).2 := vup_s
            refine c_productD hS x4 (by decide) (by decide) (by decide) (by rw [o40, F3.2 0 (by decide)]; exact hB) hB2 (by rw [e63, ← hv1]; exact wf1) (by rw [e64]; exact wf2) (fun K5 N5 o5 p5 => ?_)
            rw [e63, e64] at p5 ⊢
            have o50 : K5 0 = K3 0 := (o5 0 (by decide) (by decide) (by decide)).trans o40
            have F5 : fR K K5 := fR_t F3 (fR_t (fR_3 o4) (fR_3 o5))
            have cb5 := cd_div (B := B) (x := (nuV B C m a).2) (y := (nuV B C m (nx C m (nx C m a))).2)
            have ex1 : ∀ V, stp B C m E mg (3, a, tlen C m a) V = rOk ((nuV B C m a).2 :: V) := fun V => by rw [stp_num, rFin_0 hv0]
            have ex2 : ∀ V, stp B C m E mg (3, nx C m (nx C m a), tlen C m (nx C m (nx C m a))) V = rOk ((nuV B C m (nx C m (nx C m a))).2 :: V) := fun V => by rw [stp_num, rFin_0 q0]
            have eb : bin B 15 (nuV B C m a).2 (nuV B C m (nx C m (nx C m a))).2 = vDiv B (nuV B C m a).2 (nuV B C m (nx C m (nx C m a))).2 := rfl
            refine sX11_readNumber_141 rfl ?_
            refine tX11_readNumber_142 hS (Nat.le_of_ble_eq_true rfl) ?_
            refine c_fails hS (by omega) (by rw [o50]; exact w3) (fun q1 => ?_) (fun q1 => ?_)
            · refine sX11_readNumber_145 rfl ?_
              refine sX11_readNumber_146 rfl ?_
              rw [eT3] at eO
              rw [← eO]
              refine sX11_readNumber_147 (kOk K5 N5 _ F5 (fS_t s1 (fS_t (fS_up (by decide)) (fS_up (by decide)))) (p5.2 q1) (RT_R F5 hT) (by rw [o50]; exact w3) (by rw [o50]; exact y3) (fun _ => u3) (fun _ => ⟨?_, fun L V => ?_⟩) (fun y => by cases y))
              · rw [vup_s]; exact vWf_div hB2 (hv1 ▸ wf1) wf2 q1
              · rw [eA, vup_s]
                show exe B C m E mg ((3, a, tlen C m a) :: (3, nx C m (nx C m a), tlen C m (nx C m (nx C m a))) :: (15, nx C m a, 0) :: L) V = _
                rw [exe_ok (ex1 V), exe_ok (ex2 _), exe_ok (by rw [stp_bin (by decide) (by decide) (by decide) (by decide), eb, rFin_0 q1])]
            · obtain ⟨x', px⟩ := p5.1
              refine sX11_readNumber_145 rfl ?_
              refine sX11_readNumber_146 rfl ?_
              refine sX11_readNumber_147 (kBad _ N5 _ _ (nx C m a) _ rfl (fR_t F5 fR_w) (fS_t s1 (fS_t (fS_up (by decide)) (fS_up (by decide)))) (RX_row0 (RX_row0 px)) q1 (by omega) (by rw [xup2_n (by decide), xup2_s]) (by rw [xup2_s]) (by rw [xup2_n (by decide), xup2_n (by decide), o50]; exact y3) (fun L V => ?_))
              rw [eA]
              show exe B C m E mg ((3, a, tlen C m a) :: (3, nx C m (nx C m a), tlen C m (nx C m (nx C m a))) :: (15, nx C m a, 0) :: L) V = _
              rw [exe_ok (ex1 V), exe_ok (ex2 _), exe_bad (by rw [stp_bin (by decide) (by decide) (by decide) (by decide), eb, rFin_1 q1])]
          · refine sX11_readNumber_126 (fun y => absurd y (by decide)) (fun _ => ?_)
            obtain ⟨x', px⟩ := p4.1
            refine sX11_readNumber_129 rfl ?_
            refine sX11_readNumber_130 (kBad _ N4 _ _ (nx C m (nx C m a)) _ rfl (fR_t (fR_t F3 (fR_3 o4)) fR_w) (fS_t s1 (fS_up (by decide))) (RX_row0 (RX_row0 px)) q0 (by omega) (by rw [xup2_n (by decide), xup2_s]) (by rw [xup2_s]) (by rw [xup2_n (by decide), xup2_n (by decide), o40]; exact y3) (fun L V => ?_))
            rw [eA]
            show exe B C m E mg ((3, a, tlen C m a) :: (3, nx C m (nx C m a), tlen C m (nx C m (nx C m a))) :: (15, nx C m a, 0) :: L) V = _
            rw [exe_ok (V' := (nuV B C m a).2 :: V) (by rw [stp_num, rFin_0 hv0]), exe_bad (by rw [stp_num, rFin_1 q0])]
      · have u3 : tkK C m (nx C m (nx C m a)) ≠ 3 := fun v => u (by rw [v]; rfl)
        have hrc : rc = false := by
          cases rc with
          | false => rfl
          | true => exact absurd (hok rfl z') u3
        obtain ⟨hN1, hS1⟩ := hv' hrc
        subst hN1; subst hS1
        refine sX11_readNumber_72 rfl ?_
        refine nX11_readNumber_73 ?_
        refine sX11_readNumber_74 rfl ?_
        refine tX11_readNumber_75 hS ?_
        rw [v3]
        refine tX11_readNumber_78 hS (Nat.le_of_ble_eq_true rfl) ?_
        refine c_fails hS (by decide) w3 (fun y => absurd y (by decide)) (fun _ => ?_)
        refine sX11_readNumber_81 rfl ?_
        refine sX11_readNumber_82 rfl ?_
        refine tX11_readNumber_83 hS ?_
        exact sX11_readNumber_86 (kRej _ _ hrc z' u3 (fR_t F3 fR_w) (RX_row0 (RX_row0 x3)) (RT_R fR_w t3) (by rw [xup2_n (by decide), xup2_s]) (by rw [xup2_s]) (by rw [xup2_n (by decide), xup2_n (by decide)]; exact y3))
    · have z' : tkK C m (nx C m a) ≠ 124 := z
      refine sX11_readNumber_46 (fun y => absurd rfl y) (fun _ => ?_)
      have eO : opE C m a = tkT C m a := by unfold opE; rw [if_neg z']
      have eA : opA C m a = [(3, a, tlen C m a)] := by unfold opA; rw [if_neg z']
      refine sX11_readNumber_49 rfl ?_
      rw [← eO]
      refine sX11_readNumber_50 (kOk K2 N1 S1 F2 s1 x2 t2 w2 y2 (fun y => absurd y z') (fun y => ?_) hv')
      obtain ⟨hv0, hv1⟩ := hv y
      refine ⟨by rw [hv1]; exact vWf_num hB2 hv0, fun L V => ?_⟩
      rw [eA, hv1]
      exact exe_ok (by rw [stp_num, rFin_0 hv0])
  refine sX11_readNumber_0 rfl ?_
  refine tX11_readNumber_1 hS ?_
  rw [l3]
  refine sX11_readNumber_4 ?_
  refine sX11_readNumber_5 rfl ?_
  refine tX11_readNumber_6 hS ?_
  rw [l4]
  refine sX11_readNumber_9 ?_
  refine sX11_readNumber_10 rfl ?_
  refine tX11_readNumber_11 hS ?_
  rw [h27]
  cases rc with
  | false =>
    rw [if_neg (by decide)]
    refine sX11_readNumber_14 (fun _ => ?_) (fun y => absurd rfl y)
    exact second K N S _ (fR_r K) (fS_r S) hX h29 rfl (fun y => by cases y) (fun _ => ⟨rfl, rfl⟩) (fun z hz => by simp only [List.mem_cons, List.not_mem_nil, or_false] at hz; rcases hz with rfl | rfl | rfl <;> exact xlk_mem rfl)
  | true =>
    rw [if_pos rfl]
    refine sX11_readNumber_14 (fun y => absurd y (by decide)) (fun _ => ?_)
    refine sX11_readNumber_17 rfl ?_
    refine sX11_readNumber_18 rfl ?_
    refine nX11_readNumber_19 ?_
    refine sX11_readNumber_21 rfl ?_
    refine sX11_readNumber_22 rfl ?_
    rw [eT]
    refine tX11_readNumber_23 hS (Nat.le_of_ble_eq_true rfl) ?_
    refine c_numberOf hS hX hT (by decide) l1 h3 hB hB0 hB2 (fun K1 N1 o1 p1 => ?_)
    have o10 : K1 0 = K 0 := o1 0 (by decide) (by decide) (by decide)
    have cb := cd_num (B := B) (C := C) (m := m) (a := a)
    refine sX11_readNumber_26 rfl ?_
    refine tX11_readNumber_27 hS (Nat.le_of_ble_eq_true rfl) ?_
    refine c_fails hS (by omega) (by rw [o10]; exact h29) (fun q0 => ?_) (fun q0 => ?_)
    · refine sX11_readNumber_30 (fun _ => ?_) (fun y => absurd rfl y)
      refine second K1 N1 _ _ (fR_3 o1) (fS_up (by decide)) (p1.2 q0) (by rw [o10]; exact h29) (by rw [o10]) (fun _ => ⟨q0, vup_s⟩) (fun y => by cases y) ?_
      rw [eT]
      exact (fun z hz => by simp only [List.mem_cons, List.not_mem_nil, or_false] at hz; rcases hz with rfl | rfl | rfl <;> exact xlk_mem rfl)
    · refine sX11_readNumber_30 (fun y => absurd y (by decide)) (fun _ => ?_)
      obtain ⟨x', px⟩ := p1.1
      refine sX11_readNumber_33 rfl ?_
      refine sX11_readNumber_34 (kBad _ N1 _ _ a _ rfl (fR_t (fR_3 o1) fR_w) (fS_up (by decide)) (RX_row0 (RX_row0 px)) q0 (by omega) (by rw [xup2_n (by decide), xup2_s]) (by rw [xup2_s]) (by rw [xup2_n (by decide), xup2_n (by decide), o10]) (fun L V => ?_))
      have ex1 : ∀ V, stp B C m E mg (3, a, tlen C m a) V = rBad (nuV B C m a).1 a := fun V => by rw [stp_num, rFin_1 q0]
      unfold opA
      split
      · exact exe_bad (ex1 V)
      · exact exe_bad (ex1 V)
theorem nuW_of {a : Nat} (hC : tOk C m) (h3 : tkK C m a = 3) (h : ∀ i, a ≤ i → i < nu3 C m a → cD (C i) = true) : nuW C m a = true := by
  obtain ⟨ham, hcd, -⟩ := nt_a h3
  obtain ⟨o1, o2, o3, o4, o5, o6, o7, o8⟩ := nu_ord hC ham hcd
  have nQ := nuQ_ge C m a
  have e1 : nuP C m a = false := by
    cases e : nuP C m a with
    | false => rfl
    | true =>
      have := h (nu1 C m a) (by omega) (by have := o6 e; omega)
      rw [(nuP_iff.mp e).1] at this
      cases this
  have e2 : nuE C m a = false := by
    cases e : nuE C m a with
    | false => rfl
    | true =>
      have := h (nu2 C m a) (by omega) (by have := o5 e; omega)
      rw [(nuE_iff.mp e).1] at this
      cases this
  unfold nuW
  rw [e1, e2]
  rfl
theorem c_readRaise {a : Nat} {rc : Bool} (hS : RS h b) (hX : RX K N S) (hT : RT K C m d n lo) (hL : RLx K C m d lo a) (h94 : tkK C m a = 94) (h27 : K 0 27 = if rc = true then 1 else 0) (h29 : K 0 29 = nI 0) (hB : K 0 0 = nI B) (hB0 : 16 ≤ B) (hB2 : B ≤ 512) (w63 : rc = true → vWf (S 63)) (hok : rc = true → pg C m a)
    (kOk : ∀ K' N' S', fR K K' → fS S S' → RX K' N' S' → RT K' C m d n lo → K' 0 29 = nI 0 → K' 0 31 = K 0 31 → pg C m a → (rc = true → vWf (S' 63) ∧ ∀ L V, exe B C m E mg ((17, a, pv C m a) :: L) (S 63 :: V) = exe B C m E mg L (S' 63 :: V)) → (rc = false → N' = N ∧ S' = S) → Q (some (.int (nI (tkT C m (pw C m a) - d)))) (xB h b K'))
    (kBad : ∀ K' N' S' f p ret, rc = true → fR K K' → fS S S' → RX K' N' S' → f ≠ 0 → f < 100 → K' 0 29 = nI f → K' 0 30 = nI (p - d) → K' 0 31 = K 0 31 → (∀ L V, exe B C m E mg ((17, a, pv C m a) :: L) (S 63 :: V) = rBad f p) → Q (some (.int ret)) (xB h b K'))
    (kRej : ∀ K' ret, rc = false → ¬ pg C m a → fR K K' → RX K' N S → RT K' C m d n lo → K' 0 29 = nI 1 → K' 0 30 = nI (pw C m a - d) → K' 0 31 = K 0 31 → Q (some (.int ret)) (xB h b K')) : ac g l mX11_readRaise [.ref b] (xB h b K) Q := by
  refine ac_of (by decide) (Nat.le_of_ble_eq_true rfl) ?_
  have hC := hT.1
  have hm := hC.1
  have hnd : n + d = m := hT.2.1
  obtain ⟨l1, l2, l3, l4, l5⟩ := hL
  have ham : a < m := tkK_lt (C := C) (by omega)
  have tg := tkT_gt (C := C) ham
  have tl := tkT_le hC l2
  have ng := nx_gt (C := C) ham
  have nl : nx C m a ≤ m := nx_le hC l2
  -- the token behind ^ and -
  have rest : ∀ (t : Int32) (K1 : Nat → Nat → Int32) (lv0 : List (Nat × Value)), (t = if tkK C m (nx C m a) = 45 then 1 else 0) → ro K K1 → RLx K1 C m d lo (pw C m a) → (∀ z ∈ ([(0, .ref b), (1, .int (nI (a - d))), (2, .int t)] : List (Nat × Value)), z ∈ lv0) → aw g l mX11_readRaise 32 lv0 [] (xB h b K1) Q := by
    intro t K1 lv0 ht o1 hL1 hlv
    refine aw_lv hlv ?_
    obtain ⟨v1, v2, v3, v4, v5⟩ := hL1
    have hT1 := RT_ro o1 hT
    have hX1 := RX_ro o1 hX
    have w1 : K1 0 29 = nI 0 := by rw [o1.2 29 (by decide) (by decide) (by decide)]; exact h29
    have y1 : K1 0 31 = K 0 31 := o1.2 31 (by decide) (by decide) (by decide)
    have kb := tkK_big C m (pw C m a)
    have tg1 := tkT_ge C m (pw C m a)
    have tl1 := tkT_le hC v2
    have bad : ¬ pg C m a → ∀ lv1 : List (Nat × Value), (∀ z ∈ ([(0, .ref b)] : List (Nat × Value)), z ∈ lv1) → aw g l mX11_readRaise 119 lv1 [] (xB h b K1) Q := fun hb lv1 hlv1 => by
      refine aw_lv hlv1 ?_
      have hrc : rc = false := by
        cases rc with
        | false => rfl
        | true => exact absurd (hok rfl) hb
      refine sX11_readRaise_119 rfl ?_
      refine nX11_readRaise_120 ?_
      refine sX11_readRaise_121 rfl ?_
      refine tX11_readRaise_122 hS ?_
      rw [v3]
      refine tX11_readRaise_125 hS (Nat.le_of_ble_eq_true rfl) ?_
      refine c_fails hS (by decide) w1 (fun y => absurd y (by decide)) (fun _ => ?_)
      refine sX11_readRaise_128 rfl ?_
      refine sX11_readRaise_129 rfl ?_
      refine tX11_readRaise_130 hS ?_
      exact sX11_readRaise_133 (kRej _ _ hrc hb (fR_t (fR_ro o1) fR_w) (RX_row0 (RX_row0 hX1)) (RT_R fR_w hT1) (by rw [xup2_n (by decide), xup2_s]) (by rw [xup2_s]) (by rw [xup2_n (by decide), xup2_n (by decide)]; exact y1))
    have good : ∀ lv1 : List (Nat × Value), pg C m a → (∀ z ∈ ([(0, .ref b), (1, .int (nI (a - d))), (2, .int t), (3, .int (nI (pn C m a)))] : List (Nat × Value)), z ∈ lv1) → aw g l mX11_readRaise 134 lv1 [] (xB h b K1) Q := fun lv1 hg hlv1 => by
      refine aw_lv hlv1 ?_
      have hn99 : pn C m a ≤ 99 := hg.2.2
      refine sX11_readRaise_134 rfl ?_
      refine tX11_readRaise_135 hS ?_
      rw [v4]
      refine sX11_readRaise_138 ?_
      refine sX11_readRaise_140 rfl ?_
      refine tX11_readRaise_141 hS ?_
      rw [o1.2 27 (by decide) (by decide) (by decide), h27]
      cases rc with
      | false =>
        rw [if_neg (by decide)]
        refine sX11_readRaise_144 (fun _ => ?_) (fun y => absurd rfl y)
        refine sX11_readRaise_169 rfl ?_
        exact sX11_readRaise_171 (kOk K1 N S (fR_ro o1) (fS_r S) hX1 hT1 w1 y1 hg (fun y => by cases y) (fun _ => ⟨rfl, rfl⟩))
      | true =>
        rw [if_pos rfl]
        refine sX11_readRaise_144 (fun y => absurd y (by decide)) (fun _ => ?_)
        have call : ∀ lv2 : List (Nat × Value), (∀ z ∈ ([(0, .ref b), (1, .int (nI (a - d))), (5, .int (nI (tkT C m (pw C m a) - d)))] : List (Nat × Value)), z ∈ lv2) → aw g l mX11_readRaise 161 lv2 [.int (pv C m a), .int (nI 63), .ref b, .ref b] (xB h b K1) Q := fun lv2 hlv2 => by
          refine aw_lv hlv2 ?_
          refine tX11_readRaise_161 hS (Nat.le_of_ble_eq_true rfl) ?_
          refine c_raise hS hX1 (by rw [o1.2 0 (by decide) (by decide) (by decide)]; exact hB) hB0 hB2 (w63 rfl) hn99 pb_pv (fun K2 N2 x66 o2 p2 => ?_)
          have o20 : K2 0 = K1 0 := o2 0 (by decide) (by decide) (by decide)
          have cb := cd_pow (B := B) (x := S 63) (k := pn C m a) (ng := pb C m a) (n := pv C m a)
          have F2 : fR K K2 := fR_t (fR_ro o1) (fR_3 o2)
          refine sX11_readRaise_164 rfl ?_
          refine tX11_readRaise_165 hS (Nat.le_of_ble_eq_true rfl) ?_
          refine c_fails hS (by omega) (by rw [o20]; exact w1) (fun q0 => ?_) (fun q0 => ?_)
          · refine sX11_readRaise_168 rfl ?_
            refine sX11_readRaise_169 rfl ?_
            refine sX11_readRaise_171 (kOk K2 N2 _ F2 (fS_t (fS_up (by decide)) (fS_up (by decide))) (p2.2 q0) (RT_R F2 hT) (by rw [o20]; exact w1) (by rw [o20]; exact y1) hg (fun _ => ⟨?_, fun L V => ?_⟩) (fun y => by cases y))
            · rw [vup_s]; exact vWf_pow (by omega) hB2 (w63 rfl) (fun z => by rcases pb_pv (C := C) (m := m) (a := a) with u | u; rw [u.1] at z; cases z; exact u.2.1) q0
            · rw [vup_s]; exact exe_ok (by rw [stp_pow, rFin_0 q0])
          · obtain ⟨x', px⟩ := p2.1
            refine sX11_readRaise_168 rfl ?_
            refine sX11_readRaise_169 rfl ?_
            refine sX11_readRaise_171 (kBad _ N2 _ _ a _ rfl (fR_t F2 fR_w) (fS_t (fS_up (by decide)) (fS_up (by decide))) (RX_row0 (RX_row0 px)) q0 (by omega) (by rw [xup2_n (by decide), xup2_s]) (by rw [xup2_s]) (by rw [xup2_n (by decide), xup2_n (by decide), o20]; exact y1) (fun L V => ?_))
            exact exe_bad (by rw [stp_pow, rFin_1 q0])
        refine sX11_readRaise_147 rfl ?_
        refine sX11_readRaise_148 rfl ?_
        refine nX11_readRaise_149 ?_
        refine sX11_readRaise_151 rfl ?_
        unfold pv at call
        by_cases u : tkK C m (nx C m a) = 45
        · rw [if_pos u] at ht call
          subst ht
          refine sX11_readRaise_152 (fun v => absurd v (by decide)) (fun _ => ?_)
          refine sX11_readRaise_155 rfl ?_
          refine sX11_readRaise_156 ?_
          refine sX11_readRaise_157 ?_
          exact call _ (fun z hz => by simp only [List.mem_cons, List.not_mem_nil, or_false] at hz; rcases hz with rfl | rfl | rfl <;> exact xlk_mem rfl)
        · rw [if_neg u] at ht call
          subst ht
          refine sX11_readRaise_152 (fun _ => ?_) (fun v => absurd rfl v)
          refine sX11_readRaise_160 rfl ?_
          exact call _ (fun z hz => by simp only [List.mem_cons, List.not_mem_nil, or_false] at hz; rcases hz with rfl | rfl | rfl <;> exact xlk_mem rfl)
    -- its digits
    refine nX11_readRaise_32 ?_
    refine sX11_readRaise_33 ?_
    refine sX11_readRaise_34 rfl ?_
    refine tX11_readRaise_35 hS ?_
    rw [v5]
    refine nX11_readRaise_38 ?_
    refine nX11_readRaise_39 (by split <;> omega) (by decide) (fun u => ?_) (fun u => ?_)
    · have u3 : tkK C m (pw C m a) ≠ 3 := fun v => u (by rw [v]; rfl)
      refine sX11_readRaise_46 ?_
      refine sX11_readRaise_47 ?_
      refine sX11_readRaise_49 rfl ?_
      refine tX11_readRaise_50 hS ?_
      rw [v3]
      refine sX11_readRaise_53 ?_
      refine sX11_readRaise_55 rfl ?_
      refine sX11_readRaise_57 rfl ?_
      refine tX11_readRaise_58 hS ?_
      rw [v4]
      have stop : ∀ lv1 : List (Nat × Value), (∀ z ∈ ([(0, .ref b), (4, .int 0)] : List (Nat × Value)), z ∈ lv1) → aw g l mX11_readRaise 108 lv1 [] (xB h b K1) Q := fun lv1 hlv1 => by
        refine aw_lv hlv1 ?_
        refine sX11_readRaise_108 rfl ?_
        refine sX11_readRaise_110 (fun _ => bad (fun v => u3 v.1) _ (fun z hz => by simp only [List.mem_cons, List.not_mem_nil, or_false] at hz; rcases hz with rfl <;> exact xlk_mem rfl)) (fun y => absurd rfl y)
      refine nX11_readRaise_61 (by omega) (by omega) (fun _ => stop _ (fun z hz => by simp only [List.mem_cons, List.not_mem_nil, or_false] at hz; rcases hz with rfl | rfl <;> exact xlk_mem rfl)) (fun _ => ?_)
      refine sX11_readRaise_64 rfl ?_
      exact sX11_readRaise_66 (fun _ => stop _ (fun z hz => by simp only [List.mem_cons, List.not_mem_nil, or_false] at hz; rcases hz with rfl | rfl <;> exact xlk_mem rfl)) (fun y => absurd rfl y)
    · have u3 : tkK C m (pw C m a) = 3 := by split at u <;> omega
      obtain ⟨pm1, -, -, -, eT⟩ := nt_a u3
      have ta := tkT_gt (C := C) pm1
      refine sX11_readRaise_42 ?_
      refine sX11_readRaise_43 ?_
      refine sX11_readRaise_47 ?_
      refine sX11_readRaise_49 rfl ?_
      refine tX11_readRaise_50 hS ?_
      rw [v3]
      refine sX11_readRaise_53 ?_
      have stop : ∀ (x : Int32) (lv1 : List (Nat × Value)), ¬ nuW C m (pw C m a) = true → (∀ z ∈ ([(0, .ref b), (3, .int x), (4, .int 0)] : List (Nat × Value)), z ∈ lv1) → aw g l mX11_readRaise 108 lv1 [] (xB h b K1) Q := fun x lv1 hw hlv1 => by
        refine aw_lv hlv1 ?_
        refine sX11_readRaise_108 rfl ?_
        refine sX11_readRaise_110 (fun _ => bad (fun v => hw v.2.1) _ (fun z hz => by simp only [List.mem_cons, List.not_mem_nil, or_false] at hz; rcases hz with rfl <;> exact xlk_mem rfl)) (fun y => absurd rfl y)
      suffices H : ∀ f i q lv1, i + f = tkT C m (pw C m a) → pw C m a ≤ i → (∀ j, pw C m a ≤ j → j < i → cD (C j) = true) → (q = dv C 0 (pw C m a) (i - pw C m a) ∧ q < 10000 ∨ 1000 ≤ q ∧ q < 10000 ∧ 1000 ≤ dv C 0 (pw C m a) (i - pw C m a)) → (∀ z ∈ ([(0, .ref b), (1, .int (nI (a - d))), (2, .int t), (3, .int (nI q)), (4, .int 1), (5, .int (nI (i - d)))] : List (Nat × Value)), z ∈ lv1) → aw g l mX11_readRaise 55 lv1 [] (xB h b K1) Q from H (tkT C m (pw C m a) - pw C m a) (pw C m a) 0 _ (by omega) (Nat.le_refl _) (fun j hj => by omega) (Or.inl ⟨by rw [Nat.sub_self]; rfl, by decide⟩) (fun z hz => by simp only [List.mem_cons, List.not_mem_nil, or_false] at hz; rcases hz with rfl | rfl | rfl | rfl | rfl | rfl <;> exact xlk_mem rfl)
      intro f
      induction f with
      | zero =>
        intro i q lv1 hi hpi hdg hq hlv1
        refine aw_lv hlv1 ?_
        have hw : nuW C m (pw C m a) = true := nuW_of hC u3 (fun j a1 a2 => hdg j a1 (by omega))
        have ei : dv C 0 (pw C m a) (i - pw C m a) = pn C m a := by unfold pn; rw [show i = tkT C m (pw C m a) by omega]
        rw [ei] at hq
        refine sX11_readRaise_55 rfl ?_
        refine sX11_readRaise_57 rfl ?_
        refine tX11_readRaise_58 hS ?_
        rw [v4]
        refine nX11_readRaise_61 (by omega) (by omega) (fun _ => ?_) (fun z => absurd z (by omega))
        refine sX11_readRaise_108 rfl ?_
        refine sX11_readRaise_110 (fun y => absurd y (by decide)) (fun _ => ?_)
        refine sX11_readRaise_113 rfl ?_
        refine nX11_readRaise_114 ?_
        refine nX11_readRaise_116 (by omega) (by omega) (fun z => ?_) (fun z => bad (fun v => by have := v.2.2; omega) _ (fun z hz => by simp only [List.mem_cons, List.not_mem_nil, or_false] at hz; rcases hz with rfl <;> exact xlk_mem rfl))
        have : q = pn C m a := by omega
        subst this
        exact good _ ⟨u3, hw, z⟩ (fun z hz => by simp only [List.mem_cons, List.not_mem_nil, or_false] at hz; rcases hz with rfl | rfl | rfl | rfl <;> exact xlk_mem rfl)
      | succ f ih =>
        intro i q lv1 hi hpi hdg hq hlv1
        refine aw_lv hlv1 ?_
        have hci := hC.2.2 i
        refine sX11_readRaise_55 rfl ?_
        refine sX11_readRaise_57 rfl ?_
        refine tX11_readRaise_58 hS ?_
        rw [v4]
        refine nX11_readRaise_61 (by omega) (by omega) (fun z => absurd z (by omega)) (fun _ => ?_)
        refine sX11_readRaise_64 rfl ?_
        refine sX11_readRaise_66 (fun y => absurd y (by decide)) (fun _ => ?_)
        refine sX11_readRaise_69 rfl ?_
        refine sX11_readRaise_70 rfl ?_
        refine tX11_readRaise_72 hS (Nat.le_of_ble_eq_true rfl) ?_
        refine c_at hS hT1 (by omega) (by omega) ?_
        rw [show i - d + d = i by omega]
        refine sX11_readRaise_75 (Nat.le_of_ble_eq_true rfl) ?_
        have ee : i + 1 - d = i - d + 1 := by omega
        refine c_isDigit11 hci (fun z => ?_) (fun z => ?_)
        · have zd := cD_iff.mp z
          have hdg' : ∀ j, pw C m a ≤ j → j < i + 1 → cD (C j) = true := fun j a1 a2 => by
            rcases Nat.eq_or_lt_of_le (Nat.le_of_lt_succ a2) with e | e
            · rw [e]; exact z
            · exact hdg j a1 e
          have ed : dv C 0 (pw C m a) (i + 1 - pw C m a) = dv C 0 (pw C m a) (i - pw C m a) * 10 + (C i - 48) := by
            rw [show i + 1 - pw C m a = i - pw C m a + 1 by omega]
            show dv C 0 (pw C m a) (i - pw C m a) * 10 + (C (pw C m a + (i - pw C m a)) - 48) = _
            rw [show pw C m a + (i - pw C m a) = i by omega]
          refine sX11_readRaise_78 ?_
          refine sX11_readRaise_80 rfl ?_
          refine nX11_readRaise_81 ?_
          refine nX11_readRaise_84 (by omega) (by omega) (fun y => ?_) (fun y => ?_)
          · refine nX11_readRaise_102 rfl ?_
            refine sX11_readRaise_105 ?_
            exact ih (i + 1) q _ (by omega) (by omega) hdg' (by rw [ed]; omega) (by rw [ee]; exact (fun z hz => by simp only [List.mem_cons, List.not_mem_nil, or_false] at hz; rcases hz with rfl | rfl | rfl | rfl | rfl | rfl <;> exact xlk_mem rfl))
          · refine nX11_readRaise_87 ?_
            refine sX11_readRaise_89 rfl ?_
            refine nX11_readRaise_90 ?_
            refine sX11_readRaise_91 rfl ?_
            refine sX11_readRaise_92 rfl ?_
            refine tX11_readRaise_94 hS (Nat.le_of_ble_eq_true rfl) ?_
            refine c_at hS hT1 (by omega) (by omega) ?_
            rw [show i - d + d = i by omega]
            refine nX11_readRaise_97 ?_
            refine nX11_readRaise_98 ?_
            refine nX11_readRaise_100 (by omega) ?_
            refine sX11_readRaise_101 ?_
            refine nX11_readRaise_102 rfl ?_
            refine sX11_readRaise_105 ?_
            exact ih (i + 1) (10 * q + C i - 48) _ (by omega) (by omega) hdg' (by rw [ed]; omega) (by rw [ee]; exact (fun z hz => by simp only [List.mem_cons, List.not_mem_nil, or_false] at hz; rcases hz with rfl | rfl | rfl | rfl | rfl | rfl <;> exact xlk_mem rfl))
        · have hw : ¬ nuW C m (pw C m a) = true := fun v => by
            have := nuW_d v hpi (by omega)
            rw [z] at this
            cases this
          have out : ∀ (x : Int32) (lv2 : List (Nat × Value)), (∀ z ∈ ([(0, .ref b), (3, .int x), (4, .int 0), (5, .int (nI (i - d)))] : List (Nat × Value)), z ∈ lv2) → aw g l mX11_readRaise 102 lv2 [] (xB h b K1) Q := fun x lv2 hlv2 => by
            refine aw_lv hlv2 ?_
            refine nX11_readRaise_102 rfl ?_
            refine sX11_readRaise_105 ?_
            refine sX11_readRaise_55 rfl ?_
            refine sX11_readRaise_57 rfl ?_
            refine tX11_readRaise_58 hS ?_
            rw [v4]
            refine nX11_readRaise_61 (by omega) (by omega) (fun _ => stop x _ hw (fun z hz => by simp only [List.mem_cons, List.not_mem_nil, or_false] at hz; rcases hz with rfl | rfl | rfl <;> exact xlk_mem rfl)) (fun _ => ?_)
            refine sX11_readRaise_64 rfl ?_
            exact sX11_readRaise_66 (fun _ => stop x _ hw (fun z hz => by simp only [List.mem_cons, List.not_mem_nil, or_false] at hz; rcases hz with rfl | rfl | rfl <;> exact xlk_mem rfl)) (fun y => absurd rfl y)
          refine sX11_readRaise_78 ?_
          refine sX11_readRaise_80 rfl ?_
          refine nX11_readRaise_81 ?_
          refine nX11_readRaise_84 (by omega) (by omega) (fun y => out _ _ (fun z hz => by simp only [List.mem_cons, List.not_mem_nil, or_false] at hz; rcases hz with rfl | rfl | rfl | rfl <;> exact xlk_mem rfl)) (fun y => ?_)
          refine nX11_readRaise_87 ?_
          refine sX11_readRaise_89 rfl ?_
          refine nX11_readRaise_90 ?_
          refine sX11_readRaise_91 rfl ?_
          refine sX11_readRaise_92 rfl ?_
          refine tX11_readRaise_94 hS (Nat.le_of_ble_eq_true rfl) ?_
          refine c_at hS hT1 (by omega) (by omega) ?_
          refine sX11_readRaise_97 ?_
          refine sX11_readRaise_98 ?_
          refine sX11_readRaise_100 ?_
          refine sX11_readRaise_101 ?_
          exact out _ _ (fun z hz => by simp only [List.mem_cons, List.not_mem_nil, or_false] at hz; rcases hz with rfl | rfl | rfl | rfl <;> exact xlk_mem rfl)
  refine sX11_readRaise_0 rfl ?_
  refine tX11_readRaise_1 hS ?_
  rw [l3]
  refine sX11_readRaise_4 ?_
  refine sX11_readRaise_5 rfl ?_
  refine sX11_readRaise_6 rfl ?_
  refine tX11_readRaise_7 hS ?_
  rw [l4]
  refine tX11_readRaise_10 hS (Nat.le_of_ble_eq_true rfl) ?_
  refine c_lex hS hT (by omega) (by omega) (fun K1 o1 t1 l1' => ?_)
  rw [show tkT C m a - d + d = tkT C m a by omega] at l1'
  have l1'' : RLx K1 C m d lo (nx C m a) := l1'
  refine sX11_readRaise_13 rfl ?_
  refine nX11_readRaise_14 ?_
  refine tX11_readRaise_16 hS (Nat.le_of_ble_eq_true rfl) ?_
  refine c_isSign11 hS t1 l1'' (by decide) (by decide) (fun z => ?_) (fun z => ?_)
  · have ep : pw C m a = nx C m (nx C m a) := by unfold pw; rw [if_pos z]
    have n1m : nx C m a < m := tkK_lt (C := C) (by omega)
    have tg2 := tkT_gt (C := C) n1m
    have tl2 := tkT_le hC nl
    refine sX11_readRaise_19 ?_
    refine sX11_readRaise_20 rfl ?_
    refine sX11_readRaise_21 (fun y => absurd y (by decide)) (fun _ => ?_)
    refine sX11_readRaise_24 rfl ?_
    refine sX11_readRaise_25 rfl ?_
    refine tX11_readRaise_26 hS ?_
    rw [l1''.2.2.2.1]
    refine tX11_readRaise_29 hS (Nat.le_of_ble_eq_true rfl) ?_
    refine c_lex hS t1 (by omega) (by omega) (fun K2 o2 t2 l2' => ?_)
    rw [show tkT C m (nx C m a) - d + d = tkT C m (nx C m a) by omega] at l2'
    refine rest 1 K2 _ (by rw [if_pos z]) (ro_t o1 o2) (by rw [ep]; exact l2') (fun z hz => by simp only [List.mem_cons, List.not_mem_nil, or_false] at hz; rcases hz with rfl | rfl | rfl <;> exact xlk_mem rfl)
  · have ep : pw C m a = nx C m a := by unfold pw; rw [if_neg z]
    refine sX11_readRaise_19 ?_
    refine sX11_readRaise_20 rfl ?_
    refine sX11_readRaise_21 (fun _ => ?_) (fun y => absurd rfl y)
    exact rest 0 K1 _ (by rw [if_neg z]) o1 (by rw [ep]; exact l1'') (fun z hz => by simp only [List.mem_cons, List.not_mem_nil, or_false] at hz; rcases hz with rfl | rfl | rfl <;> exact xlk_mem rfl)
end RefRead
