/-! ===== the reference: forget, reckon, turn ===== -/
/-- more VALUES below the stack -/
def apW (W : List Vl) (r : Rs) : Rs := (r.1, r.2.1, r.2.2.1, if r.1 = 0 then r.2.2.2 ++ W else r.2.2.2)
section Under
variable {B : Nat} {C : Nat → Nat} {m c : Nat} {E : Nat → Option (Nat × Vl)} {mg : Nat → Nat → Option Nat × Option Nat} {W : List Vl}
theorem rFin_W {r : Nat × Vl} {p : Nat} {V : List Vl} : rFin r p (V ++ W) = apW W (rFin r p V) ∧ ((rFin r p V).1 = 0 → (rFin r p V).2.2.2.length = V.length + 1) := by
  by_cases z : r.1 = 0
  · rw [rFin_0 z, rFin_0 z]; exact ⟨rfl, fun _ => rfl⟩
  · rw [rFin_1 z, rFin_1 z]; exact ⟨rfl, fun y => absurd y (show (1 : Nat) ≠ 0 by decide)⟩
theorem rNeed_W {j : Nat} {n : Nat} : rNeed j = apW W (rNeed j) ∧ ((rNeed j).1 = 0 → (rNeed j).2.2.2.length = n) := ⟨rfl, fun y => absurd y (show (2 : Nat) ≠ 0 by decide)⟩
theorem rBad_W {f p : Nat} {n : Nat} : rBad f p = apW W (rBad f p) ∧ ((rBad f p).1 = 0 → (rBad f p).2.2.2.length = n) := ⟨rfl, fun y => absurd y (show (1 : Nat) ≠ 0 by decide)⟩
theorem sN_W {pt : Option Nat × Option Nat} {p : Nat} {V : List Vl} : sN B E pt p (V ++ W) = apW W (sN B E pt p V) ∧ ((sN B E pt p V).1 = 0 → (sN B E pt p V).2.2.2.length = V.length + 1) := by
  obtain ⟨pk, t⟩ := pt
  cases t with
  | none => cases pk <;> exact rBad_W
  | some t =>
    cases pk with
    | none =>
      cases e : E t with
      | none => rw [sN_a e, sN_a e]; exact rNeed_W
      | some r => rw [sN_b e, sN_b e]; exact rFin_W
    | some k =>
      cases e : E k with
      | none => rw [sN_c e, sN_c e]; exact rNeed_W
      | some r =>
        by_cases z : r.1 = 0
        · cases e2 : E t with
          | none => rw [sN_e e z e2, sN_e e z e2]; exact rNeed_W
          | some r' =>
            rw [sN_f e z e2, sN_f e z e2]
            by_cases y : r'.1 = 0
            · rw [if_pos y, if_pos y]; exact rFin_W
            · rw [if_neg y, if_neg y]; exact rBad_W
        · rw [sN_d e z, sN_d e z]; exact rBad_W
theorem exe_W {lo u k : Nat} : ∀ {L : List St} {V : List Vl}, dk C m lo u k L V.length → exe B C m E mg L (V ++ W) = apW W (exe B C m E mg L V)
  | [], V, _ => rfl
  | s :: L, V, ⟨_, h2⟩ => by
    have key : stp B C m E mg s (V ++ W) = apW W (stp B C m E mg s V) ∧ ((stp B C m E mg s V).1 = 0 → dk C m lo u k L (stp B C m E mg s V).2.2.2.length) := by
      rcases h2 with ⟨e, -, -, -, hd⟩ | ⟨e, -, -, -, hd⟩ | ⟨e, -, -, hl, hd⟩ | ⟨e, hl, hd⟩ | ⟨e, hl, hd⟩
      · have e1 : ∀ U, stp B C m E mg s U = sN B E (mg s.2.1 (tkT C m s.2.1 - s.2.1)) s.2.1 U := fun U => if_pos e
        rw [e1, e1]
        exact ⟨sN_W.1, fun z => by rw [(sN_W (W := W)).2 z]; exact hd⟩
      · have e1 : ∀ U, stp B C m E mg s U = rFin (nuV B C m s.2.1) s.2.1 U := fun U => by unfold stp; rw [if_neg (by omega), if_pos e]
        rw [e1, e1]
        exact ⟨rFin_W.1, fun z => by rw [(rFin_W (W := W)).2 z]; exact hd⟩
      · cases V with
        | nil => exact absurd hl (by decide)
        | cons x V =>
          have e1 : ∀ U, stp B C m E mg s (x :: U) = rFin (vPow B x (pn C m s.2.1) (pb C m s.2.1) (pv C m s.2.1)) s.2.1 U := fun U => by unfold stp; rw [if_neg (by omega), if_neg (by omega), if_pos e]
          show stp B C m E mg s (x :: (V ++ W)) = _ ∧ _
          rw [e1, e1]
          exact ⟨rFin_W.1, fun z => by rw [(rFin_W (W := W)).2 z]; exact hd⟩
      · cases V with
        | nil => exact absurd hl (by decide)
        | cons x V =>
          have e1 : ∀ U, stp B C m E mg s (x :: U) = rOk (vS x (-x.1) :: U) := fun U => by unfold stp; rw [if_neg (by omega), if_neg (by omega), if_neg (by omega), if_pos e]
          show stp B C m E mg s (x :: (V ++ W)) = _ ∧ _
          rw [e1, e1]
          exact ⟨rfl, fun _ => hd⟩
      · cases V with
        | nil => exact absurd hl (by decide)
        | cons y V =>
          cases V with
          | nil => exact absurd hl (show ¬ 2 ≤ 1 by decide)
          | cons x V =>
            have e1 : ∀ U, stp B C m E mg s (y :: x :: U) = rFin (bin B s.1 x y) s.2.1 U := fun U => by unfold stp; rw [if_neg (by omega), if_neg (by omega), if_neg (by omega), if_neg (by omega)]
            show stp B C m E mg s (y :: x :: (V ++ W)) = _ ∧ _
            rw [e1, e1]
            exact ⟨rFin_W.1, fun z => by rw [(rFin_W (W := W)).2 z]; exact hd⟩
    rw [exe_s, exe_s, key.1]
    by_cases z : (stp B C m E mg s V).1 = 0
    · rw [if_pos (show (apW W (stp B C m E mg s V)).1 = 0 from z), if_pos z]
      show exe B C m E mg L (if (stp B C m E mg s V).1 = 0 then (stp B C m E mg s V).2.2.2 ++ W else (stp B C m E mg s V).2.2.2) = _
      rw [if_pos z]
      exact exe_W (key.2 z)
    · rw [if_neg (show ¬ (apW W (stp B C m E mg s V)).1 = 0 from z), if_neg z]
theorem exe_appB {f p : Nat} {R : List St} : ∀ {L : List St} {V : List Vl}, exe B C m E mg L V = rBad f p → exe B C m E mg (L ++ R) V = rBad f p
  | [], V, h => absurd (show rBad f p = rOk V from h.symm) rBad_ne
  | s :: L, V, h => by
    rw [exe_s] at h
    show exe B C m E mg (s :: (L ++ R)) V = _
    rw [exe_s]
    by_cases z : (stp B C m E mg s V).1 = 0
    · rw [if_pos z] at h ⊢; exact exe_appB h
    · rw [if_neg z] at h ⊢; exact h
end Under
def fH (K K' : Nat → Nat → Int32) : Prop := (∀ r, 4 ≤ r → r < 15 → K' r = K r) ∧ ∀ j, j < 20 → K' 0 j = K 0 j
theorem fH_t {K K1 K2 : Nat → Nat → Int32} (a : fH K K1) (c : fH K1 K2) : fH K K2 := ⟨fun r h1 h2 => (c.1 r h1 h2).trans (a.1 r h1 h2), fun j hj => (c.2 j hj).trans (a.2 j hj)⟩
theorem fH_E {K K' : Nat → Nat → Int32} (o : fE K K') : fH K K' := ⟨fun r h1 h2 => o.1 r (by omega) (by omega) (by omega) (by omega) (by omega), fun j hj => o.2 j (by omega)⟩
theorem fH_o {K K' : Nat → Nat → Int32} (o : ro K K') : fH K K' := ⟨fun r h1 _ => o.1 r (by omega), fun j hj => o.2 j (by omega) (by omega) (by omega)⟩
theorem fH_u {K : Nat → Nat → Int32} {i : Nat} {v : Int32} (h : 20 ≤ i) : fH K (xup2 K 0 i v) := ⟨fun r h1 _ => xup2_r (by omega), fun j hj => xup2_n (by omega)⟩
theorem fH_3 {K K' : Nat → Nat → Int32} (o : xo3 K K') : fH K K' := ⟨fun r h1 _ => o r (by omega) (by omega) (by omega), fun j _ => by rw [o 0 (by decide) (by decide) (by decide)]⟩
theorem fH_r (K : Nat → Nat → Int32) : fH K K := ⟨fun _ _ _ => rfl, fun _ _ => rfl⟩
section RReck
variable {g : xG} {l : Launch} {h : xH} {b : Nat} {K : Nat → Nat → Int32} {N : Nat → Nat} {S : Nat → Vl} {Q : Option Value → xH → Prop} {B c ts fl gv fr m n a : Nat} {C : Nat → Nat} {D : Nat → Df} {E : Nat → Option (Nat × Vl)} {tp : Nat → Nat} {V : Vl}
theorem c_forget11 {x : Int32} (hI : RI h b K B c D E ts tp V fl gv) (hB0 : 16 ≤ B) (hB2 : B ≤ 512) (hD : DB c D) (hK : KN B c D E)
    (k0 : (x < 0 ∨ ∃ j, x = nI j ∧ c < j ∧ j < 2 ^ 31) → Q (some (.int (-1))) (xB h b K))
    (kA : ∀ j, x = nI j → j ≤ c → ∀ K' E', KN B (c - j) D E' → RI h b K' B (c - j) D E' ts tp (lp (nb (fso D) (c - j)) V) fl gv → Q (some (.int (nI (c - j)))) (xB h b K'))
    (kB : ∀ j i, x = nI j → j ≤ c → i < c - j → ¬ fn B (c - j) D i → ∀ K', RI h b K' B c D E ts tp V fl gv → Q (some (.int (-1))) (xB h b K')) : ac g l mX11_forget [.ref b, .int x] (xB h b K) Q := by
  refine ac_of (by decide) (Nat.le_of_ble_eq_true rfl) ?_
  obtain ⟨hS, hB, ⟨N, S, hX, hS67, hRK⟩, ⟨h5, h4⟩, h6, hRB, h14, h18, h19⟩ := hI
  have hc := hD.1
  refine sX11_forget_0 rfl ?_
  rcases i32c x with z | ⟨j, rfl, hj⟩
  · refine sX11_forget_1 (fun _ => ?_) (fun y => absurd z y)
    refine sX11_forget_12 ?_
    exact sX11_forget_13 (k0 (Or.inl z))
  · refine nX11_forget_1 hj ?_
    refine sX11_forget_4 rfl ?_
    refine sX11_forget_5 rfl ?_
    refine tX11_forget_6 hS ?_
    rw [h6]
    refine nX11_forget_9 hj (by omega) (fun z => ?_) (fun z => ?_)
    · have D1 : DB (c - j) D := DB_take hD (Nat.sub_le _ _)
      have rb1 : RB K (c - j) D := RB_take (Nat.sub_le _ _) (fun _ _ => rfl) hRB
      have hnb := D1.2.2.2.1
      refine sX11_forget_14 rfl ?_
      refine sX11_forget_15 rfl ?_
      refine tX11_forget_16 hS ?_
      rw [h6]
      refine sX11_forget_19 rfl ?_
      refine nX11_forget_20 (by omega) ?_
      refine tX11_forget_21 hS (Nat.le_of_ble_eq_true rfl) ?_
      refine c_rsettle (mg := dM (c - j) D) (bv := bvO (fbn D)) (fun _ => rfl) rfl hS hX (RB_D D1 rb1) hB hB0 hB2 (fun K1 N1 S1 E1 fg x1 all s65 s67 => ?_) (fun K1 N1 S1 i fg x1 hi nf af s65 s67 => ?_)
      · have g0 : ∀ j, j < 20 ∨ 32 < j → K1 0 j = K 0 j := fg.2
        have kn1 : KN B (c - j) D E1 := fun k hk => by
          obtain ⟨r, e, a1, a2, a3, a4, a5, a6⟩ := all k hk
          exact ⟨r, e, a3, a6⟩
        have rbg := RB_g fg rb1
        refine sX11_forget_24 (fun _ => ?_) (fun y => absurd (by decide) y)
        refine sX11_forget_38 rfl ?_
        refine sX11_forget_39 rfl ?_
        refine tX11_forget_40 hS ?_
        rw [g0 6 (by omega), h6]
        refine sX11_forget_43 rfl ?_
        refine nX11_forget_44 (by omega) ?_
        refine tX11_forget_45 hS ?_
        have booked : ∀ (bk : Nat) (lv0 : List (Nat × Value)), bk = eO (ftt D) (c - j) → (∀ z ∈ ([(0, .ref b)] : List (Nat × Value)), z ∈ lv0) → aw g l mX11_forget 71 lv0 [.int (nI bk), .ref b] (xB h b (xup2 K1 0 6 (nI (c - j)))) Q := by
          intro bk lv0 hbk hlv
          refine aw_lv hlv ?_
          refine tX11_forget_71 hS ?_
          refine sX11_forget_74 rfl ?_
          refine nX11_forget_75 ?_
          refine sX11_forget_76 rfl ?_
          refine tX11_forget_77 hS ?_
          rw [xup2_n (by decide), xup2_s]
          refine tX11_forget_80 hS (Nat.le_of_ble_eq_true rfl) ?_
          refine c_count11 (so := fso D) hS (by omega) (fun k hk => ?_) ?_
          · rw [xup2_r (by decide), xup2_r (by decide)]; exact ⟨(rbg k hk).1, (D1.2.1 k hk).1⟩
          refine sX11_forget_83 ?_
          obtain ⟨K2, hK2⟩ : ∃ K2, K2 = xup2 (xup2 K1 0 6 (nI (c - j))) 0 14 (nI bk) := ⟨_, rfl⟩
          rw [← hK2]
          have r2 : ∀ r, r ≠ 0 → K2 r = K1 r := fun r hr => by rw [hK2, xup2_r hr, xup2_r hr]
          have z2 : ∀ j, j < 20 → j ≠ 6 → j ≠ 14 → K2 0 j = K 0 j := fun j a1 a2 a3 => by rw [hK2, xup2_n a3, xup2_n a2, g0 j (by omega)]
          have e26 : K2 0 6 = nI (c - j) := by rw [hK2, xup2_n (by decide), xup2_s]
          have e214 : K2 0 14 = nI (eO (ftt D) (c - j)) := by rw [hK2, xup2_s, hbk]
          have x2 : RX K2 N1 S1 := by rw [hK2]; exact RX_row0 (RX_row0 x1)
          suffices Hl : ∀ f t (K3 : Nat → Nat → Int32) (S3 : Nat → Vl) (lv1 : List (Nat × Value)), t + f = 8 → nb (fso D) (c - j) ≤ t → (∀ r, r ≠ 3 → K3 r = K2 r) → RX K3 N1 S3 → (∀ w, w ≠ 67 → S3 w = S1 w) → S3 67 = vP (S1 67) (fun q => if nb (fso D) (c - j) ≤ q ∧ q < t then 0 else (S1 67).2.2.2 q) → (∀ z ∈ ([(0, .ref b), (2, .int (nI t))] : List (Nat × Value)), z ∈ lv1) → aw g l mX11_forget 84 lv1 [] (xB h b K3) Q by
            refine Hl (8 - nb (fso D) (c - j)) (nb (fso D) (c - j)) K2 S1 _ (by omega) (Nat.le_refl _) (fun _ _ => rfl) x2 (fun _ _ => rfl) ?_ (fun z hz => by simp only [List.mem_cons, List.not_mem_nil, or_false] at hz; rcases hz with rfl | rfl <;> exact xlk_mem rfl)
            have : (fun q => if nb (fso D) (c - j) ≤ q ∧ q < nb (fso D) (c - j) then 0 else (S1 67).2.2.2 q) = (S1 67).2.2.2 := by
              funext q; rw [if_neg (by omega)]
            rw [this]; rfl
          intro f
          induction f with
          | zero =>
            intro t K3 S3 lv1 ht hnt o3 x3 w3 w67 hlv1
            refine aw_lv hlv1 ?_
            obtain rfl : t = 8 := by omega
            refine sX11_forget_84 rfl ?_
            refine nX11_forget_85 ?_
            refine nX11_forget_87 (by decide) (by decide) (fun _ => ?_) (fun y => absurd y (by decide))
            refine sX11_forget_107 rfl ?_
            refine tX11_forget_108 hS ?_
            rw [o3 0 (by decide), e26]
            refine sX11_forget_111 (kA j rfl z K3 E1 kn1 ⟨hS, by rw [o3 0 (by decide), z2 0 (by decide) (by decide) (by decide)]; exact hB, ⟨N1, S3, x3, by rw [w67, s67, hS67]; rfl, fun k hk => ?_⟩, ⟨by rw [o3 0 (by decide), z2 5 (by decide) (by decide) (by decide)]; exact h5, fun i hi => ?_⟩, by rw [o3 0 (by decide)]; exact e26, RB_x (fun r a1 _ => by rw [o3 r (by omega), r2 r (by omega)]) rbg, by rw [o3 0 (by decide)]; exact e214, by rw [o3 0 (by decide), z2 18 (by decide) (by decide) (by decide)]; exact h18, by rw [o3 0 (by decide), z2 19 (by decide) (by decide) (by decide)]; exact h19⟩)
            · obtain ⟨r, e, a1, a2, a3, a4, a5, a6⟩ := all k hk
              refine ⟨r, e, by rw [o3 12 (by decide), r2 12 (by decide)]; exact a1, a2, by rw [o3 13 (by decide), r2 13 (by decide)]; exact a4, fun y => ?_⟩
              rw [w3 _ (by omega)]; exact a5 y
            · rw [o3 4 (by decide), r2 4 (by decide), fg.1 4 (by decide) (by decide) (by decide) (by decide) (by decide)]; exact h4 i hi
          | succ f ih =>
            intro t K3 S3 lv1 ht hnt o3 x3 w3 w67 hlv1
            refine aw_lv hlv1 ?_
            refine sX11_forget_84 rfl ?_
            refine nX11_forget_85 ?_
            refine nX11_forget_87 (by omega) (by decide) (fun y => absurd y (by omega)) (fun _ => ?_)
            refine sX11_forget_90 rfl ?_
            refine tX11_forget_91 hS ?_
            refine nX11_forget_94 ?_
            refine sX11_forget_97 rfl ?_
            refine nX11_forget_98 ?_
            refine nX11_forget_99 ?_
            refine tX11_forget_100 hS (by decide) (by decide) rfl (show 536 + t < 1360 by omega) ?_
            refine nX11_forget_101 rfl ?_
            refine sX11_forget_104 ?_
            have x4 := RX_pow (v := 67) (i := t) (s := nI 0) x3 (by omega)
            refine ih (t + 1) _ _ _ (by omega) (by omega) (fun r hr => by rw [xup2_r hr]; exact o3 r hr) x4 (fun w hw => by rw [vup_n hw]; exact w3 w hw) ?_ (fun z hz => by simp only [List.mem_cons, List.not_mem_nil, or_false] at hz; rcases hz with rfl | rfl <;> exact xlk_mem rfl)
            rw [vup_s, w67]
            show vP (S1 67) _ = vP (S1 67) _
            congr 1
            funext q
            show va_up (fun q => if nb (fso D) (c - j) ≤ q ∧ q < t then (0 : Int32) else (S1 67).2.2.2 q) t (nI 0) q = _
            by_cases y : q = t
            · rw [y, vup_s, if_pos (by omega)]; rfl
            · rw [vup_n y]
              by_cases y2 : nb (fso D) (c - j) ≤ q ∧ q < t
              · rw [if_pos y2, if_pos (by omega)]
              · rw [if_neg y2, if_neg (by omega)]
        refine sX11_forget_48 rfl ?_
        refine sX11_forget_49 rfl ?_
        refine tX11_forget_50 hS ?_
        rw [xup2_s]
        refine nX11_forget_53 (by omega) (fun y => ?_) (fun y => ?_)
        · refine sX11_forget_60 rfl ?_
          refine tX11_forget_61 hS ?_
          refine sX11_forget_64 rfl ?_
          refine tX11_forget_65 hS ?_
          rw [xup2_s]
          refine nX11_forget_68 ?_
          refine nX11_forget_69 (by omega) ?_
          refine tX11_forget_70 hS (by decide) (by decide) rfl (show c - j - 1 < 210 by omega) ?_
          rw [xup2_r (by decide), (rbg (c - j - 1) (by omega)).2.2.2.2.2.1]
          exact booked _ _ (eO_p (by omega)).symm (fun z hz => by simp only [List.mem_cons, List.not_mem_nil, or_false] at hz; rcases hz with rfl <;> exact xlk_mem rfl)
        · refine nX11_forget_56 ?_
          refine sX11_forget_57 ?_
          exact booked 0 _ (by rw [y]; rfl) (fun z hz => by simp only [List.mem_cons, List.not_mem_nil, or_false] at hz; rcases hz with rfl <;> exact xlk_mem rfl)
      · have g0 : ∀ j, j < 20 ∨ 32 < j → K1 0 j = K 0 j := fg.2
        refine nX11_forget_24 (by omega) ?_
        refine sX11_forget_27 rfl ?_
        refine sX11_forget_28 rfl ?_
        refine tX11_forget_29 hS ?_
        rw [g0 6 (by omega), h6]
        refine tX11_forget_32 hS (Nat.le_of_ble_eq_true rfl) ?_
        refine c_rset hS x1 (by rw [g0 0 (by omega)]; exact hB) hB0 hB2 hD (RB_g fg hRB) (KN_fn hK) (fun K2 N2 S2 E2 fg2 x2 t67 kn2 rk2 => ?_)
        have g2 : ∀ j, j < 20 ∨ 32 < j → K2 0 j = K 0 j := fun j hj => by rw [fg2.2 j hj, g0 j hj]
        refine sX11_forget_35 ?_
        refine sX11_forget_36 ?_
        refine sX11_forget_37 (kB j i rfl z hi nf K2 (RI_E kn2 hK ⟨hS, by rw [g2 0 (by omega)]; exact hB, ⟨N2, S2, x2, by rw [t67, s67]; exact hS67, rk2⟩, ⟨by rw [g2 5 (by omega)]; exact h5, fun i hi => ?_⟩, by rw [g2 6 (by omega)]; exact h6, RB_g fg2 (RB_g fg hRB), by rw [g2 14 (by omega)]; exact h14, by rw [g2 18 (by omega)]; exact h18, by rw [g2 19 (by omega)]; exact h19⟩))
        rw [fg2.1 4 (by decide) (by decide) (by decide) (by decide) (by decide), fg.1 4 (by decide) (by decide) (by decide) (by decide) (by decide)]; exact h4 i hi
    · refine sX11_forget_12 ?_
      exact sX11_forget_13 (k0 (Or.inr ⟨j, rfl, z, hj⟩))
theorem c_has11 {q e qv : Nat} {L : List St} (hqv : qv = q - fr) (hS : RS h b) (hX : RX K N S) (hB : K 0 0 = nI B) (hB0 : 16 ≤ B) (hB2 : B ≤ 512) (hD : DB c D) (hRB : RB K c D) (hRK : RK K S E c) (h6 : K 0 6 = nI c) (hC : tOk C m) (hn : n + fr = m) (h21 : K 0 21 = nI n) (hn4 : n ≤ 4000) (h4 : ∀ p, p < n → K 4 p = nI (C (p + fr))) (hq : fr ≤ q) (hqm : q ≤ m) (ha : tkF C m q = a) (pm : PM0 C m a L true e)
    (kV : ∀ K' N' S', fH K K' → K' 0 21 = nI n → K' 0 47 = K 0 47 → gS S S' → RX K' N' S' → exe B C m E (mng (fso D) (fln D) (fnm D) c C) L [] = rOk [S' 0] → vWf (S' 0) → Q (some (.int 1)) (xB h b K'))
    (kF : ∀ K' N' S' f p, fH K K' → gS S S' → RX K' N' S' → exe B C m E (mng (fso D) (fln D) (fnm D) c C) L [] = rBad f p → f ≠ 0 → f < 100 → K' 0 29 = nI f → K' 0 30 = nI (p - fr) → Q (some (.int 0)) (xB h b K')) : ac g l mX11_has [.ref b, .int (nI qv)] (xB h b K) Q := by
  subst hqv
  refine ac_of (by decide) (Nat.le_of_ble_eq_true rfl) ?_
  have hc := hD.1
  refine sX11_has_0 rfl ?_
  refine sX11_has_1 ?_
  refine tX11_has_2 hS (by first | decide | assumption) ?_
  refine sX11_has_5 rfl ?_
  refine sX11_has_6 ?_
  refine tX11_has_7 hS (by first | decide | assumption) ?_
  refine sX11_has_10 rfl ?_
  refine sX11_has_11 rfl ?_
  refine tX11_has_12 hS ?_
  rw [xup2_n (by decide), xup2_n (by decide), h6]
  refine tX11_has_15 hS ?_
  refine sX11_has_18 rfl ?_
  refine sX11_has_19 rfl ?_
  refine tX11_has_20 hS (Nat.le_of_ble_eq_true rfl) ?_
  generalize hK1 : xup2 (xup2 (xup2 K 0 20 0) 0 27 1) 0 28 (nI c) = K1
  have r1 : ∀ r, r ≠ 0 → K1 r = K r := fun r hr => by rw [← hK1, xup2_r hr, xup2_r hr, xup2_r hr]
  have z1 : ∀ j, j ≠ 20 → j ≠ 27 → j ≠ 28 → K1 0 j = K 0 j := fun j a1 a2 a3 => by rw [← hK1, xup2_n a3, xup2_n a2, xup2_n a1]
  have f1 : fH K K1 := ⟨fun r a1 _ => r1 r (by omega), fun j hj => z1 j (by omega) (by omega) (by omega)⟩
  have x1 : RX K1 N S := RX_row (r1 1 (by decide)) (r1 2 (by decide)) (r1 3 (by decide)) hX
  have t1 : RTt K1 C m fr n := ⟨hC, hn, by rw [z1 21 (by decide) (by decide) (by decide)]; exact h21, by rw [← hK1, xup2_n (by decide), xup2_n (by decide), xup2_s], hn4, fun p hp => by rw [r1 4 (by decide)]; exact h4 p hp⟩
  have re1 : RE K1 S E c := fun k hk => by
    obtain ⟨r, er, a1, a2, a3, a4⟩ := hRK k hk
    rw [r1 13 (by decide), r1 12 (by decide)]
    refine ⟨fun y => (by rw [er] at y; cases y), fun r' er' => ?_⟩
    have : r = r' := Option.some.inj (er.symm.trans er')
    subst this
    exact ⟨a3, a1, a2, a4⟩
  refine c_expression (rc := true) (so := fso D) (ln := fln D) (nm := fnm D) (E := E) (B := B) (c := c) (N0 := N) (S0 := S) (a := a) (L := L) (o := true) (e := e) hS (RTt_RT t1) (by rw [← hK1, xup2_n (by decide), xup2_s]; rfl) (by rw [z1 0 (by decide) (by decide) (by decide)]; exact hB) hB0 hB2 (fun _ => ⟨by rw [← hK1, xup2_s], hc, RB_M hD (RB_x (fun r a1 _ => r1 r (by omega)) hRB), re1, fun k k' hk hk' e e' => hD.2.2.2.2.2 k k' hk hk' (by rw [e, e'])⟩) x1 (by omega) (Nat.zero_le _) (by rw [show q - fr + fr = q by omega]; exact ha) pm (fun _ => rfl) ⟨fun y => (by cases y), fun y => (by cases y), fun _ K2 N2 S2 ret fe gs x2 ex wf e29 e31 => ?_, fun _ K2 N2 S2 ret f p fe gs x2 ex f0 f1' e29 e30 e31 => ?_, fun _ K2 N2 S2 ret j fe gs x2 ex hj e29 e31 ej => ?_⟩
  · refine sX11_has_23 ?_
    refine sX11_has_24 rfl ?_
    refine tX11_has_25 hS ?_
    rw [e29]
    refine nX11_has_28 (by decide) (fun y => absurd rfl y) (fun _ => ?_)
    refine sX11_has_31 ?_
    refine sX11_has_32 ?_
    exact sX11_has_36 (Or.inr rfl) (kV K2 N2 S2 (fH_t f1 (fH_E fe)) (by rw [fe.2 21 (by decide)]; exact t1.2.2.1) (by rw [fe.2 47 (by decide), z1 47 (by decide) (by decide) (by decide)]) gs x2 ex wf)
  · refine sX11_has_23 ?_
    refine sX11_has_24 rfl ?_
    refine tX11_has_25 hS ?_
    rw [e29]
    refine nX11_has_28 (by omega) (fun _ => ?_) (fun y => absurd y f0)
    refine sX11_has_35 ?_
    exact sX11_has_36 (Or.inl rfl) (kF K2 N2 S2 f p (fH_t f1 (fH_E fe)) gs x2 ex f0 f1' e29 e30)
  · obtain ⟨r, er, -⟩ := hRK j hj
    rw [er] at ej; cases ej
theorem c_reads {tv : Int32} (hS : RS h b) (hX : RX K N S) (hB : K 0 0 = nI B) (hB0 : 16 ≤ B) (hB2 : B ≤ 512) (hC : tOk C m) (hn : n + fr = m) (hn4 : n ≤ 4000) (h4 : ∀ p, p < n → K 4 p = nI (C (p + fr))) (ha : a = tkF C m fr)
    (ho : (∃ e, (tv = 0 ∧ ((∃ L, PM0 C m a L false e) ∨ ∃ L, PM0 C m a L true e ∧ tkK C m e ≠ 0) ∨ tv = 1 ∧ tnB C m a e) ∧ ∀ K', fH K K' → RX K' N S → K' 0 29 = nI 1 → K' 0 30 = nI (e - fr) → Q (some (.int 0)) (xB h b K')) ∨ (tv = 0 ∧ (∃ L e, PM0 C m a L true e ∧ tkK C m e = 0) ∧ ∀ K', fH K K' → K' 0 21 = nI n → RX K' N S → Q (some (.int 1)) (xB h b K')) ∨ (tv = 1 ∧ ∃ L e1 L2 e, tnO C m a L e1 L2 e ∧ ∀ K', fH K K' → K' 0 21 = nI n → RX K' N S → K' 0 47 = nI (e1 - fr) → Q (some (.int 1)) (xB h b K'))) : ac g l mX11_reads [.ref b, .int (nI n), .int tv] (xB h b K) Q := by
  refine ac_of (by decide) (Nat.le_of_ble_eq_true rfl) ?_
  have haF : tkF C m a = a := by rw [ha]; exact rnd_idem
  have hfa : fr ≤ a := by rw [ha]; exact tkF_ge _ _ _
  have ham : a ≤ m := by rw [ha]; exact tkF_le (by omega)
  have rt : ∀ K1 : Nat → Nat → Int32, fH K K1 → K1 0 21 = nI n → K1 0 20 = 0 → RTt K1 C m fr n := fun K1 fa e21 e20 => ⟨hC, hn, e21, e20, hn4, fun p hp => by rw [fa.1 4 (by decide) (by decide)]; exact h4 p hp⟩
  -- a FAULT was found
  have bad : ∀ (K1 : Nat → Nat → Int32) (lv0 : List (Nat × Value)), K1 0 29 = nI 1 → Q (some (.int 0)) (xB h b K1) → (∀ z ∈ ([(0, .ref b)] : List (Nat × Value)), z ∈ lv0) → aw g l mX11_reads 76 lv0 [] (xB h b K1) Q := by
    intro K1 lv0 e29 q hlv
    refine aw_lv hlv ?_
    refine sX11_reads_76 rfl ?_
    refine tX11_reads_77 hS ?_
    rw [e29]
    refine nX11_reads_80 (by decide) (fun y => absurd y (by decide)) (fun _ => ?_)
    refine sX11_reads_83 ?_
    exact sX11_reads_84 (Or.inl rfl) q
  -- is it at its end
  have tail : ∀ (K1 : Nat → Nat → Int32) (e : Nat) (lv0 : List (Nat × Value)), fr ≤ e → e ≤ m → tkF C m e = e → fH K K1 → K1 0 21 = nI n → K1 0 20 = 0 → RX K1 N S → K1 0 29 = nI 0 → (tkK C m e ≠ 0 → ∀ K', fH K K' → RX K' N S → K' 0 29 = nI 1 → K' 0 30 = nI (e - fr) → Q (some (.int 0)) (xB h b K')) → (tkK C m e = 0 → ∀ K', fH K K' → K' 0 21 = nI n → RX K' N S → K' 0 47 = K1 0 47 → Q (some (.int 1)) (xB h b K')) → (∀ z ∈ ([(0, .ref b), (3, .int (nI (e - fr)))] : List (Nat × Value)), z ∈ lv0) → aw g l mX11_reads 76 lv0 [] (xB h b K1) Q := by
    intro K1 e lv0 hfe hem heF fa e21 e20 x1 e29 kn kz hlv
    refine aw_lv hlv ?_
    refine sX11_reads_76 rfl ?_
    refine tX11_reads_77 hS ?_
    rw [e29]
    refine nX11_reads_80 (by decide) (fun _ => ?_) (fun y => absurd rfl y)
    refine sX11_reads_85 rfl ?_
    refine sX11_reads_86 rfl ?_
    refine tX11_reads_87 hS (Nat.le_of_ble_eq_true rfl) ?_
    refine c_lex (p := e - fr) hS (RTt_RT (rt K1 fa e21 e20)) (by omega) (Nat.zero_le _) (fun K2 o2 t2 lx => ?_)
    rw [show e - fr + fr = e by omega, heF] at lx
    obtain ⟨w1, w2, w3, w4, w5⟩ := lx
    have kb := (tkK_big C m e).1
    have fa2 := fH_t fa (fH_o o2)
    have x2 := RX_ro o2 x1
    refine sX11_reads_90 rfl ?_
    refine tX11_reads_91 hS ?_
    rw [w5]
    refine nX11_reads_94 (by split <;> omega) (fun u => ?_) (fun u => ?_)
    · have u' : tkK C m e ≠ 0 := fun y => u (by rw [if_pos (by omega)]; exact y)
      refine sX11_reads_99 rfl ?_
      refine nX11_reads_100 ?_
      refine sX11_reads_101 rfl ?_
      refine tX11_reads_102 hS ?_
      rw [w3]
      refine tX11_reads_105 hS (Nat.le_of_ble_eq_true rfl) ?_
      refine c_fails hS (by decide) (by rw [o2.2 29 (by decide) (by decide) (by decide)]; exact e29) (fun y => absurd y (by decide)) (fun _ => ?_)
      refine sX11_reads_108 rfl ?_
      refine sX11_reads_109 ?_
      refine sX11_reads_110 (Or.inl rfl) (kn u' _ (fH_t fa2 (fH_t (fH_u (by decide)) (fH_u (by decide)))) (RX_row0 (RX_row0 x2)) (by rw [xup2_n (by decide), xup2_s]) xup2_s)
    · have u' : tkK C m e = 0 := by
        by_cases y : tkK C m e ≤ 3
        · rw [if_pos y] at u; exact u
        · rw [if_neg y] at u; omega
      refine sX11_reads_97 ?_
      exact sX11_reads_98 (Or.inr rfl) (kz u' K2 fa2 (by rw [o2.2 21 (by decide) (by decide) (by decide)]; exact e21) x2 (by rw [o2.2 47 (by decide) (by decide) (by decide)]))
  refine sX11_reads_0 rfl ?_
  refine sX11_reads_1 ?_
  refine tX11_reads_2 hS (by first | decide | assumption) ?_
  refine sX11_reads_5 rfl ?_
  refine sX11_reads_6 rfl ?_
  refine tX11_reads_7 hS ?_
  refine sX11_reads_10 rfl ?_
  refine sX11_reads_11 ?_
  refine tX11_reads_12 hS (by first | decide | assumption) ?_
  refine sX11_reads_15 rfl ?_
  refine nX11_reads_16 ?_
  refine tX11_reads_17 hS (Nat.le_of_ble_eq_true rfl) ?_
  generalize hK1 : xup2 (xup2 (xup2 K 0 20 0) 0 21 (nI n)) 0 27 0 = K1
  have r1 : ∀ r, r ≠ 0 → K1 r = K r := fun r hr => by rw [← hK1, xup2_r hr, xup2_r hr, xup2_r hr]
  have z1 : ∀ j, j < 20 → K1 0 j = K 0 j := fun j a1 => by rw [← hK1, xup2_n (by omega), xup2_n (by omega), xup2_n (by omega)]
  have f1 : fH K K1 := ⟨fun r a1 _ => r1 r (by omega), z1⟩
  have x1 : RX K1 N S := RX_row (r1 1 (by decide)) (r1 2 (by decide)) (r1 3 (by decide)) hX
  have e211 : K1 0 21 = nI n := by rw [← hK1, xup2_n (by decide), xup2_s]
  have e201 : K1 0 20 = 0 := by rw [← hK1, xup2_n (by decide), xup2_n (by decide), xup2_s]
  have e271 : K1 0 27 = 0 := by rw [← hK1, xup2_s]
  have b1 : K1 0 0 = nI B := by rw [z1 0 (by decide)]; exact hB
  have a0 : tkF C m (0 + fr) = a := by rw [Nat.zero_add]; exact ha.symm
  -- the first EXPR is none
  have first0 : ∀ L e, PM0 C m a L false e → (∀ K', fH K K' → RX K' N S → K' 0 29 = nI 1 → K' 0 30 = nI (e - fr) → Q (some (.int 0)) (xB h b K')) → ac g l mX11_expression [.ref b, .int (nI 0)] (xB h b K1) (fun r h1 => aw g l mX11_reads 20 [(0, .ref b), (2, .int tv)] (r.toList ++ []) h1 Q) := by
    intro L e pm kk
    refine c_expression (rc := false) (so := fun _ => 0) (ln := fun _ => 0) (nm := fun _ _ => 0) (E := fun _ => none) (B := B) (c := 0) (N0 := N) (S0 := S) (a := a) (L := L) (o := false) (e := e) hS (RTt_RT (rt K1 f1 e211 e201)) (by rw [e271]; rfl) b1 hB0 hB2 (fun y => by cases y) x1 (Nat.zero_le _) (Nat.zero_le _) a0 pm (fun y => by cases y) ⟨fun _ y => (by cases y), fun _ _ K4 ret fe x4 e29 e30 => ?_, fun y => (by cases y), fun y => (by cases y), fun y => (by cases y)⟩
    refine sX11_reads_20 ?_
    refine sX11_reads_21 rfl ?_
    refine tX11_reads_22 hS ?_
    rw [e29]
    refine nX11_reads_25 (by decide) (fun _ => ?_) (fun y => absurd y (by decide))
    exact bad K4 _ e29 (kk K4 (fH_t f1 (fH_E fe)) x4 e29 e30) (fun z hz => by simp only [List.mem_cons, List.not_mem_nil, or_false] at hz; rcases hz with rfl <;> exact xlk_mem rfl)
  have first1 : ∀ L e, PM0 C m a L true e → (∀ K4, fH K K4 → K4 0 21 = nI n → K4 0 20 = 0 → K4 0 27 = 0 → RX K4 N S → K4 0 29 = nI 0 → aw g l mX11_reads 28 [(0, .ref b), (2, .int tv), (3, .int (nI (e - fr)))] [] (xB h b K4) Q) → ac g l mX11_expression [.ref b, .int (nI 0)] (xB h b K1) (fun r h1 => aw g l mX11_reads 20 [(0, .ref b), (2, .int tv)] (r.toList ++ []) h1 Q) := by
    intro L e pm kk
    refine c_expression (rc := false) (so := fun _ => 0) (ln := fun _ => 0) (nm := fun _ _ => 0) (E := fun _ => none) (B := B) (c := 0) (N0 := N) (S0 := S) (a := a) (L := L) (o := true) (e := e) hS (RTt_RT (rt K1 f1 e211 e201)) (by rw [e271]; rfl) b1 hB0 hB2 (fun y => by cases y) x1 (Nat.zero_le _) (Nat.zero_le _) a0 pm (fun _ => rfl) ⟨fun _ _ K4 fe x4 e29 e31 => ?_, fun _ y => (by cases y), fun y => (by cases y), fun y => (by cases y), fun y => (by cases y)⟩
    refine sX11_reads_20 ?_
    refine sX11_reads_21 rfl ?_
    refine tX11_reads_22 hS ?_
    rw [e29]
    refine nX11_reads_25 (by decide) (fun y => absurd rfl y) (fun _ => ?_)
    exact aw_lv (fun z hz => by simp only [List.mem_cons, List.not_mem_nil, or_false] at hz; rcases hz with rfl | rfl | rfl <;> exact xlk_mem rfl) (kk K4 (fH_t f1 (fH_E fe)) (by rw [fe.2 21 (by decide)]; exact e211) (by rw [fe.2 20 (by decide)]; exact e201) (by rw [fe.2 27 (by decide)]; exact e271) x4 e29)
  have len : ∀ L e, PM0 C m a L true e → fr ≤ e ∧ e ≤ m ∧ tkF C m e = e := fun L e pm => ⟨Nat.le_trans hfa (pm0_ge pm), (pm0_dk (lo := 0) hC pm (Nat.zero_le _) ham (n0 := 0) (by omega)).1, pm0_tk pm haF⟩
  -- behind the first EXPR, for turn
  have turn : ∀ (e1 : Nat) (K4 : Nat → Nat → Int32) (lv0 : List (Nat × Value)), tv = 1 → fr ≤ e1 → e1 ≤ m → tkF C m e1 = e1 → fH K K4 → K4 0 21 = nI n → K4 0 20 = 0 → K4 0 27 = 0 → RX K4 N S → K4 0 29 = nI 0 → (tkK C m e1 ≠ 62 → ∀ K', fH K K' → RX K' N S → K' 0 29 = nI 1 → K' 0 30 = nI (e1 - fr) → Q (some (.int 0)) (xB h b K')) → (tkK C m e1 = 62 → ∀ K5, fH K K5 → K5 0 21 = nI n → K5 0 20 = 0 → K5 0 27 = 0 → RX K5 N S → K5 0 47 = nI (e1 - fr) → ac g l mX11_expression [.ref b, .int (nI (tkT C m e1 - fr))] (xB h b K5) (fun r h1 => aw g l mX11_reads 75 [(0, .ref b)] (r.toList ++ []) h1 Q)) → (∀ z ∈ ([(0, .ref b), (2, .int tv), (3, .int (nI (e1 - fr)))] : List (Nat × Value)), z ∈ lv0) → aw g l mX11_reads 28 lv0 [] (xB h b K4) Q := by
    intro e1 K4 lv0 htv h1 h2 hF fa e21 e20 e27 x4 e29 kn kt hlv
    refine aw_lv hlv ?_
    subst htv
    refine sX11_reads_28 rfl ?_
    refine sX11_reads_29 (fun y => absurd y (by decide)) (fun _ => ?_)
    refine sX11_reads_32 rfl ?_
    refine sX11_reads_33 rfl ?_
    refine tX11_reads_34 hS (Nat.le_of_ble_eq_true rfl) ?_
    refine c_lex (p := e1 - fr) hS (RTt_RT (rt K4 fa e21 e20)) (by omega) (Nat.zero_le _) (fun K5 o5 t5 lx => ?_)
    rw [show e1 - fr + fr = e1 by omega, hF] at lx
    obtain ⟨w1, w2, w3, w4, w5⟩ := id lx
    have fa5 := fH_t fa (fH_o o5)
    have x5 := RX_ro o5 x4
    refine sX11_reads_37 rfl ?_
    refine sX11_reads_38 rfl ?_
    refine tX11_reads_39 hS ?_
    rw [w3]
    refine tX11_reads_42 hS ?_
    refine sX11_reads_45 rfl ?_
    refine nX11_reads_46 ?_
    refine tX11_reads_48 hS (Nat.le_of_ble_eq_true rfl) ?_
    obtain ⟨K6, hK6⟩ : ∃ K6, K6 = xup2 K5 0 47 (nI (e1 - fr)) := ⟨_, rfl⟩
    rw [← hK6]
    have z6 : ∀ j, j ≠ 47 → K6 0 j = K5 0 j := fun j hj => by rw [hK6, xup2_n hj]
    have fa6 : fH K K6 := by rw [hK6]; exact fH_t fa5 (fH_u (by decide))
    have x6 : RX K6 N S := by rw [hK6]; exact RX_row0 x5
    have e216 : K6 0 21 = nI n := by rw [z6 21 (by decide), o5.2 21 (by decide) (by decide) (by decide)]; exact e21
    have e206 : K6 0 20 = 0 := by rw [z6 20 (by decide), o5.2 20 (by decide) (by decide) (by decide)]; exact e20
    have lx6 : RLx K6 C m fr 0 e1 := RLx_0 (z6 22 (by decide)) (z6 23 (by decide)) (z6 24 (by decide)) lx
    refine c_isSign11 hS (RTt_RT (rt K6 fa6 e216 e206)) lx6 (by decide) (by decide) (fun y => ?_) (fun y => ?_)
    · refine sX11_reads_51 (fun _ => ?_) (fun v => absurd v (by decide))
      refine sX11_reads_67 rfl ?_
      refine sX11_reads_68 rfl ?_
      refine tX11_reads_69 hS ?_
      rw [z6 24 (by decide), w4]
      refine tX11_reads_72 hS (Nat.le_of_ble_eq_true rfl) ?_
      refine ac_mono (kt y K6 fa6 e216 e206 (by rw [z6 27 (by decide), o5.2 27 (by decide) (by decide) (by decide)]; exact e27) x6 (by rw [hK6, xup2_s])) (fun r h1 q => aw_lv ?_ q)
      exact (fun z hz => by simp only [List.mem_cons, List.not_mem_nil, or_false] at hz; rcases hz with rfl <;> exact xlk_mem rfl)
    · refine sX11_reads_51 (fun v => absurd rfl v) (fun _ => ?_)
      refine sX11_reads_54 rfl ?_
      refine nX11_reads_55 ?_
      refine sX11_reads_56 rfl ?_
      refine tX11_reads_57 hS ?_
      rw [z6 23 (by decide), w3]
      refine tX11_reads_60 hS (Nat.le_of_ble_eq_true rfl) ?_
      refine c_fails hS (by decide) (by rw [z6 29 (by decide), o5.2 29 (by decide) (by decide) (by decide)]; exact e29) (fun y => absurd y (by decide)) (fun _ => ?_)
      refine sX11_reads_63 rfl ?_
      refine sX11_reads_64 ?_
      have v29 : xup2 (xup2 K6 0 29 (nI 1)) 0 30 (nI (e1 - fr)) 0 29 = nI 1 := by rw [xup2_n (by decide), xup2_s]
      exact bad _ _ v29 (kn y _ (fH_t fa6 (fH_t (fH_u (by decide)) (fH_u (by decide)))) (RX_row0 (RX_row0 x6)) v29 xup2_s) (fun z hz => by simp only [List.mem_cons, List.not_mem_nil, or_false] at hz; rcases hz with rfl <;> exact xlk_mem rfl)
  have tk62 : ∀ e1, tkK C m e1 = 62 → e1 < m ∧ tkT C m e1 = e1 + 1 ∧ tkF C m (tkT C m e1) = nx C m e1 := fun e1 y => by
    refine ⟨tkK_lt (C := C) (by omega), ?_, rfl⟩
    rcases (tkK_big C m e1).2 with v | ⟨-, -, -, -, v⟩
    · omega
    · exact v
  rcases ho with ⟨e, hb, kk⟩ | ⟨htv, ⟨L, e, pm, he⟩, kk⟩ | ⟨htv, L, e1, L2, e, ⟨pm1, h62, pm2, he⟩, kk⟩
  · rcases hb with ⟨htv, ⟨L, pm⟩ | ⟨L, pm, he⟩⟩ | ⟨htv, hb⟩
    · refine ac_mono (first0 L e pm kk) (fun r h1 q => aw_lv ?_ q)
      exact (fun z hz => by simp only [List.mem_cons, List.not_mem_nil, or_false] at hz; rcases hz with rfl | rfl <;> exact xlk_mem rfl)
    · obtain ⟨l1, l2, l3⟩ := len L e pm
      refine ac_mono (first1 L e pm (fun K4 fa e21 e20 e27 x4 e29 => ?_)) (fun r h1 q => aw_lv ?_ q)
      · subst htv
        refine sX11_reads_28 rfl ?_
        refine sX11_reads_29 (fun _ => ?_) (fun y => absurd rfl y)
        exact tail K4 e _ l1 l2 l3 fa e21 e20 x4 e29 (fun _ => kk) (fun y => absurd y he) (fun z hz => by simp only [List.mem_cons, List.not_mem_nil, or_false] at hz; rcases hz with rfl | rfl <;> exact xlk_mem rfl)
      · exact (fun z hz => by simp only [List.mem_cons, List.not_mem_nil, or_false] at hz; rcases hz with rfl | rfl <;> exact xlk_mem rfl)
    · rcases hb with ⟨L, pm⟩ | ⟨L, pm, he⟩ | ⟨L, e1, L2, pm1, h62, pm2⟩ | ⟨L, e1, L2, pm1, h62, pm2, he⟩
      · refine ac_mono (first0 L e pm kk) (fun r h1 q => aw_lv ?_ q)
        exact (fun z hz => by simp only [List.mem_cons, List.not_mem_nil, or_false] at hz; rcases hz with rfl | rfl <;> exact xlk_mem rfl)
      · obtain ⟨l1, l2, l3⟩ := len L e pm
        refine ac_mono (first1 L e pm (fun K4 fa e21 e20 e27 x4 e29 => turn e K4 _ htv l1 l2 l3 fa e21 e20 e27 x4 e29 (fun _ => kk) (fun y => absurd y he) (fun z hz => by simp only [List.mem_cons, List.not_mem_nil, or_false] at hz; rcases hz with rfl | rfl | rfl <;> exact xlk_mem rfl))) (fun r h1 q => aw_lv ?_ q)
        exact (fun z hz => by simp only [List.mem_cons, List.not_mem_nil, or_false] at hz; rcases hz with rfl | rfl <;> exact xlk_mem rfl)
      · obtain ⟨l1, l2, l3⟩ := len L e1 pm1
        obtain ⟨t1, t2, t3⟩ := tk62 e1 h62
        refine ac_mono (first1 L e1 pm1 (fun K4 fa e21 e20 e27 x4 e29 => turn e1 K4 _ htv l1 l2 l3 fa e21 e20 e27 x4 e29 (fun y => absurd h62 y) (fun _ K5 fa5 e215 e205 e275 x5 e47 => ?_) (fun z hz => by simp only [List.mem_cons, List.not_mem_nil, or_false] at hz; rcases hz with rfl | rfl | rfl <;> exact xlk_mem rfl))) (fun r h1 q => aw_lv ?_ q)
        · refine c_expression (rc := false) (so := fun _ => 0) (ln := fun _ => 0) (nm := fun _ _ => 0) (E := fun _ => none) (B := B) (c := 0) (N0 := N) (S0 := S) (a := nx C m e1) (L := L2) (o := false) (e := e) hS (RTt_RT (rt K5 fa5 e215 e205)) (by rw [e275]; rfl) (by rw [fa5.2 0 (by decide)]; exact hB) hB0 hB2 (fun y => by cases y) x5 (by omega) (Nat.zero_le _) (by rw [show tkT C m e1 - fr + fr = tkT C m e1 by omega]; exact t3) pm2 (fun y => by cases y) ⟨fun _ y => (by cases y), fun _ _ K6 ret fe x6 e29' e30 => ?_, fun y => (by cases y), fun y => (by cases y), fun y => (by cases y)⟩
          refine sX11_reads_75 ?_
          exact bad K6 _ e29' (kk K6 (fH_t fa5 (fH_E fe)) x6 e29' e30) (fun z hz => by simp only [List.mem_cons, List.not_mem_nil, or_false] at hz; rcases hz with rfl <;> exact xlk_mem rfl)
        · exact (fun z hz => by simp only [List.mem_cons, List.not_mem_nil, or_false] at hz; rcases hz with rfl | rfl <;> exact xlk_mem rfl)
      · obtain ⟨l1, l2, l3⟩ := len L e1 pm1
        obtain ⟨t1, t2, t3⟩ := tk62 e1 h62
        have nl : nx C m e1 ≤ m := nx_le hC l2
        have ge2 := pm0_ge pm2
        have na := nx_a C m e1
        have em2 : e ≤ m := (pm0_dk (lo := 0) hC pm2 (Nat.zero_le _) nl (n0 := 0) (by omega)).1
        refine ac_mono (first1 L e1 pm1 (fun K4 fa e21 e20 e27 x4 e29 => turn e1 K4 _ htv l1 l2 l3 fa e21 e20 e27 x4 e29 (fun y => absurd h62 y) (fun _ K5 fa5 e215 e205 e275 x5 e47 => ?_) (fun z hz => by simp only [List.mem_cons, List.not_mem_nil, or_false] at hz; rcases hz with rfl | rfl | rfl <;> exact xlk_mem rfl))) (fun r h1 q => aw_lv ?_ q)
        · refine c_expression (rc := false) (so := fun _ => 0) (ln := fun _ => 0) (nm := fun _ _ => 0) (E := fun _ => none) (B := B) (c := 0) (N0 := N) (S0 := S) (a := nx C m e1) (L := L2) (o := true) (e := e) hS (RTt_RT (rt K5 fa5 e215 e205)) (by rw [e275]; rfl) (by rw [fa5.2 0 (by decide)]; exact hB) hB0 hB2 (fun y => by cases y) x5 (by omega) (Nat.zero_le _) (by rw [show tkT C m e1 - fr + fr = tkT C m e1 by omega]; exact t3) pm2 (fun _ => rfl) ⟨fun _ _ K6 fe x6 e29' e31 => ?_, fun _ y => (by cases y), fun y => (by cases y), fun y => (by cases y), fun y => (by cases y)⟩
          refine sX11_reads_75 ?_
          exact tail K6 e _ (by omega) em2 (pm0_tk pm2 nxF) (fH_t fa5 (fH_E fe)) (by rw [fe.2 21 (by decide)]; exact e215) (by rw [fe.2 20 (by decide)]; exact e205) x6 e29' (fun _ => kk) (fun y => absurd y he) (fun z hz => by simp only [List.mem_cons, List.not_mem_nil, or_false] at hz; rcases hz with rfl | rfl <;> exact xlk_mem rfl)
        · exact (fun z hz => by simp only [List.mem_cons, List.not_mem_nil, or_false] at hz; rcases hz with rfl | rfl <;> exact xlk_mem rfl)
  · obtain ⟨l1, l2, l3⟩ := len L e pm
    refine ac_mono (first1 L e pm (fun K4 fa e21 e20 e27 x4 e29 => ?_)) (fun r h1 q => aw_lv ?_ q)
    · subst htv
      refine sX11_reads_28 rfl ?_
      refine sX11_reads_29 (fun _ => ?_) (fun y => absurd rfl y)
      exact tail K4 e _ l1 l2 l3 fa e21 e20 x4 e29 (fun y => absurd he y) (fun _ K' f' e21' x' _ => kk K' f' e21' x') (fun z hz => by simp only [List.mem_cons, List.not_mem_nil, or_false] at hz; rcases hz with rfl | rfl <;> exact xlk_mem rfl)
    · exact (fun z hz => by simp only [List.mem_cons, List.not_mem_nil, or_false] at hz; rcases hz with rfl | rfl <;> exact xlk_mem rfl)
  · obtain ⟨l1, l2, l3⟩ := len L e1 pm1
    obtain ⟨t1, t2, t3⟩ := tk62 e1 h62
    have nl : nx C m e1 ≤ m := nx_le hC l2
    have ge2 := pm0_ge pm2
    have na := nx_a C m e1
    have em2 : e ≤ m := (pm0_dk (lo := 0) hC pm2 (Nat.zero_le _) nl (n0 := 0) (by omega)).1
    refine ac_mono (first1 L e1 pm1 (fun K4 fa e21 e20 e27 x4 e29 => turn e1 K4 _ htv l1 l2 l3 fa e21 e20 e27 x4 e29 (fun y => absurd h62 y) (fun _ K5 fa5 e215 e205 e275 x5 e47 => ?_) (fun z hz => by simp only [List.mem_cons, List.not_mem_nil, or_false] at hz; rcases hz with rfl | rfl | rfl <;> exact xlk_mem rfl))) (fun r h1 q => aw_lv ?_ q)
    · refine c_expression (rc := false) (so := fun _ => 0) (ln := fun _ => 0) (nm := fun _ _ => 0) (E := fun _ => none) (B := B) (c := 0) (N0 := N) (S0 := S) (a := nx C m e1) (L := L2) (o := true) (e := e) hS (RTt_RT (rt K5 fa5 e215 e205)) (by rw [e275]; rfl) (by rw [fa5.2 0 (by decide)]; exact hB) hB0 hB2 (fun y => by cases y) x5 (by omega) (Nat.zero_le _) (by rw [show tkT C m e1 - fr + fr = tkT C m e1 by omega]; exact t3) pm2 (fun _ => rfl) ⟨fun _ _ K6 fe x6 e29' e31 => ?_, fun _ y => (by cases y), fun y => (by cases y), fun y => (by cases y), fun y => (by cases y)⟩
      refine sX11_reads_75 ?_
      exact tail K6 e _ (by omega) em2 (pm0_tk pm2 nxF) (fH_t fa5 (fH_E fe)) (by rw [fe.2 21 (by decide)]; exact e215) (by rw [fe.2 20 (by decide)]; exact e205) x6 e29' (fun y => absurd he y) (fun _ K' f' e21' x' e47' => kk K' f' e21' x' (by rw [e47', fe.2 47 (by decide)]; exact e47)) (fun z hz => by simp only [List.mem_cons, List.not_mem_nil, or_false] at hz; rcases hz with rfl | rfl <;> exact xlk_mem rfl)
    · exact (fun z hz => by simp only [List.mem_cons, List.not_mem_nil, or_false] at hz; rcases hz with rfl | rfl <;> exact xlk_mem rfl)
end RReck
