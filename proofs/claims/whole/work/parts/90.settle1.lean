/-! ===== the class's settle ===== -/
/-- slots were added, Ledgers changed places -/
def hZ (R : Nat) (h h' : xH) : Prop := h.1 ≤ h'.1 ∧ (∀ a, a < h.1 → xT h' a = xT h a) ∧ ∀ a, a < h.1 → a ≠ R → a ≠ R + 1209 → xP h' a = xP h a
theorem hZ_t {R : Nat} {h h1 h2 : xH} (a : hZ R h h1) (c : hZ R h1 h2) : hZ R h h2 := by
  have := a.1
  exact ⟨Nat.le_trans a.1 c.1, fun q hq => (c.2.1 q (by omega)).trans (a.2.1 q hq), fun q hq h1 h2 => (c.2.2 q (by omega) h1 h2).trans (a.2.2 q hq h1 h2)⟩
theorem hZ_x {R : Nat} {h h' : xH} (hx : hX R h h') : hZ R h h' := ⟨hx.1, hx.2.1, fun a h1 _ h2 => hx.2.2.1 a h1 h2⟩
def swp (h : xH) (R L L' : Nat) : xH := xsP (xsP h R 1 (some L')) R 2 (some L)
theorem swp_P {h : xH} {R L L' a : Nat} (ha : a ≠ R) : xP (swp h R L L') a = xP h a := by unfold swp; rw [xs_n ha, xs_n ha]
theorem hZ_s {R L L' : Nat} {h : xH} : hZ R h (swp h R L L') := ⟨Nat.le_refl _, fun _ _ => rfl, fun a _ h1 _ => swp_P h1⟩
theorem CV_w {h : xH} {R L L' q : Nat} (hq : R < q) (hV : CV h q) : CV (swp h R L L') q := by
  obtain ⟨v1, ⟨v2, v3, v4⟩, ⟨n1, n2, n3⟩, ⟨m1, m2, m3⟩, v7⟩ := hV
  exact ⟨v1, ⟨by rw [swp_P (by omega)]; exact v2, by rw [swp_P (by omega)]; exact v3, by rw [swp_P (by omega)]; exact v4⟩, ⟨n1, by rw [swp_P (by omega)]; exact n2, n3⟩, ⟨m1, by rw [swp_P (by omega)]; exact m2, m3⟩, v7⟩
theorem SH_w {h : xH} {R L L' H : Nat} (hS : SH h R H) : SH (swp h R L L') R H := by
  obtain ⟨s1, s2, s3, s4, s5, s6⟩ := hS
  refine ⟨s1, s2, s3, fun i q hi e => ?_, by rw [swp_P (by omega)]; exact s5, by rw [swp_P (by omega)]; exact s6⟩
  rw [swp_P (by omega)] at e
  obtain ⟨a1, a2, a3, a4⟩ := s4 i q hi e
  exact ⟨a1, a2, CV_w (by omega) a3, fun j hj ej => by rw [swp_P (by omega)] at ej; exact a4 j hj ej⟩
theorem CN_w {h : xH} {R L L' a c : Nat} (ha : a ≠ R) (hN : CN h a c) : CN (swp h R L L') a c := ⟨hN.1, by rw [swp_P ha]; exact hN.2.1, hN.2.2⟩
theorem UC_w {g : xG} {h : xH} {w R L L' H : Nat} (hU : UC g h w R L L' H) : UC g (swp h R L L') w R L' L H := by
  obtain ⟨hQ, ⟨r1, ⟨p0, p1, p2, p3, p5, p6, p7⟩, ⟨t0, t1, t2⟩, hB, l1, l2, lay⟩, hS, hwR, hlo, htn, ht⟩ := hU
  refine ⟨CQ_e (h := h) (fun a _ => rfl) (fun a ha => swp_P (by omega)) hQ, ⟨r1, ?_, ⟨t0, t1, t2⟩, ?_, CLd_e (h := h) (fun a _ _ => rfl) (fun a a1 a2 => swp_P (by omega)) l2, CLd_e (h := h) (fun a _ _ => rfl) (fun a a1 a2 => swp_P (by omega)) l1, by omega⟩, SH_w hS, hwR, hlo, htn, ht⟩
  · have k : ∀ j, j ≠ 1 → j ≠ 2 → xP (swp h R L L') R j = xP h R j := fun j a1 a2 => by unfold swp; rw [xs_k a2, xs_k a1]
    refine ⟨by rw [k 0 (by decide) (by decide)]; exact p0, ?_, ?_, by rw [k 3 (by decide) (by decide)]; exact p3, by rw [k 5 (by decide) (by decide)]; exact p5, by rw [k 6 (by decide) (by decide)]; exact p6, by rw [k 7 (by decide) (by decide)]; exact p7⟩
    · unfold swp; rw [xs_k (by decide), xs_s]
    · unfold swp; rw [xs_s]
  · obtain ⟨b1, b2, ⟨n1, n2, n3, n4, n5⟩, b4, b5⟩ := hB
    exact ⟨b1, by rw [swp_P (by omega)]; exact b2, ⟨CN_w (by omega) n1, CN_w (by omega) n2, CN_w (by omega) n3, CN_w (by omega) n4, CN_w (by omega) n5⟩, b4, b5⟩
/-- what settle leaves as it was: K the Ledger that it fills -/
def fV (w R H K : Nat) (J J' : Nat → Nat → Int32) : Prop := (∀ r, r < H → r ≠ R → r ≠ w → r < K ∨ K + 604 ≤ r → r < R + 1210 ∨ R + 1226 ≤ r → J' r = J r) ∧ (∀ j, j ≠ 11 → j ≠ 12 → J' w j = J w j) ∧ J' (R + 1213) 0 = J (R + 1213) 0
theorem fV_t {w R H K : Nat} {J J1 J2 : Nat → Nat → Int32} (a : fV w R H K J J1) (b : fV w R H K J1 J2) : fV w R H K J J2 := ⟨fun r h1 h2 h3 h4 h5 => (b.1 r h1 h2 h3 h4 h5).trans (a.1 r h1 h2 h3 h4 h5), fun j h1 h2 => (b.2.1 j h1 h2).trans (a.2.1 j h1 h2), b.2.2.trans a.2.2⟩
theorem fV_U {w R H K : Nat} {J J' : Nat → Nat → Int32} (h : fU w R H J J') : fV w R H K J J' := ⟨fun r h1 h2 h3 _ h5 => h.1 r h1 h2 h3 (by omega), h.2.1, h.2.2.2⟩
theorem fV_r (w R H K : Nat) (J : Nat → Nat → Int32) : fV w R H K J J := ⟨fun _ _ _ _ _ _ => rfl, fun _ _ _ => rfl, rfl⟩
theorem fV_u {w R H K r i : Nat} {J : Nat → Nat → Int32} {v : Int32} (hwR : w + 18 ≤ R) (hK : R < K) (h : r = R ∨ K ≤ r ∧ r < K + 604 ∧ r < R + 1210 ∨ R + 1210 ≤ r ∧ r < R + 1213) : fV w R H K J (xup2 J r i v) := ⟨fun q h1 h2 h3 h4 h5 => xup2_r (by omega), fun j _ _ => by rw [xup2_r (by omega)], by rw [xup2_r (by omega)]⟩
/-- the class's Book with its texts and steps -/
def WD (J : Nat → Nat → Int32) (w c : Nat) (so ln np : Nat → Nat) (nm : Nat → Nat → Nat) (T : Nat → Nat) (bn cs : Nat → Nat) (Lk : Nat → List St) (Ck : Nat → Nat → Nat) (mk lo : Nat → Nat) : Prop := WT J w T ∧ WN J w so ln np nm T c ∧ (∀ k, k < c → J (w + 9) k = nI (bn k) ∧ (so k = 0 → bn k < 8) ∧ J (w + 10) k = nI (cs k) ∧ J (w + 11) k = nI (cs k + (Lk k).length) ∧ cs k + (Lk k).length ≤ 13668 ∧ sg J w (cs k) (Lk k) ∧ (so k ≠ 0 → tOk (Ck k) (mk k) ∧ mk k ≤ 10240 ∧ (∀ q, lo k ≤ q → q < mk k → T q = Ck k q) ∧ dk (Ck k) (mk k) (lo k) 66 1 (Lk k) 0)) ∧ ∀ k k', k < c → k' < c → so k = 2 → so k' = 2 → ln k = ln k' → (∀ i, i < ln k → nm k i = nm k' i) → k = k'
theorem WD_c {J J' : Nat → Nat → Int32} {w c : Nat} {so ln np : Nat → Nat} {nm : Nat → Nat → Nat} {T : Nat → Nat} {bn cs : Nat → Nat} {Lk : Nat → List St} {Ck : Nat → Nat → Nat} {mk lo : Nat → Nat} (o : ∀ r, w < r → r < w + 13 → r ≠ w + 2 → J' r = J r) (o9 : J' w 9 = J w 9) (h : WD J w c so ln np nm T bn cs Lk Ck mk lo) : WD J' w c so ln np nm T bn cs Lk Ck mk lo := by
  obtain ⟨h1, ⟨h2, h3, h4⟩, h5, h6⟩ := h
  refine ⟨fun q hq => by rw [o _ (by omega) (by omega) (by omega)]; exact h1 q hq, ⟨o9.trans h2, h3, fun k hk => ?_⟩, fun k hk => ?_, h6⟩
  · rw [o _ (by omega) (by omega) (by omega), o _ (by omega) (by omega) (by omega), o _ (by omega) (by omega) (by omega)]; exact h4 k hk
  · obtain ⟨a1, a2, a3, a4, a5, a6, a7⟩ := h5 k hk
    exact ⟨by rw [o _ (by omega) (by omega) (by omega)]; exact a1, a2, by rw [o _ (by omega) (by omega) (by omega)]; exact a3, by rw [o _ (by omega) (by omega) (by omega)]; exact a4, a5, sg_same (o _ (by omega) (by omega) (by omega)) (o _ (by omega) (by omega) (by omega)) (o _ (by omega) (by omega) (by omega)) a6, a7⟩
noncomputable def bvO (bn : Nat → Nat) (k : Nat) : Vl := (1, 1, 1, va_up (fun _ => 0) (bn k) 1)
theorem vWf_bv (bn : Nat → Nat) (k : Nat) : vWf (bvO bn k) := by
  refine ⟨Nat.one_pos, Nat.one_lt_two_pow (by decide), Nat.one_lt_two_pow (by decide), ⟨fun z => absurd z (show (1 : Int32) ≠ 0 by decide), fun z => absurd z (show (1 : Nat) ≠ 0 by decide)⟩, Or.inr (Or.inr rfl), (show Nat.gcd 1 1 = 1 by decide), fun j hj => ?_⟩
  show ¬ va_up (fun _ => (0 : Int32)) (bn k) 1 j < -99 ∧ ¬ 99 < va_up (fun _ => (0 : Int32)) (bn k) 1 j
  by_cases e : j = bn k
  · rw [e, vup_s]; decide
  · rw [vup_n e]; decide
noncomputable def E0 (so bn : Nat → Nat) : Nat → Option (Nat × Vl) := fun k => if so k = 0 then some (0, bvO bn k) else none
section Settle1
variable {g : xG} {l : Launch} {h : xH} {J : Nat → Nat → Int32} {Q : Option Value → xH → Prop} {R L L' c w H : Nat} {E : Nat → Option (Nat × Vl)} {so ln np bn cs : Nat → Nat} {nm : Nat → Nat → Nat} {T : Nat → Nat} {Lk : Nat → List St} {Ck : Nat → Nat → Nat} {mk lo : Nat → Nat}
theorem c_swap (hU : UC g h w R L L' H) (k : Q none (xJ (swp h R L L') J)) : ac g l mX7_swapLedgers [.ref R] (xJ h J) Q := by
  refine ac_of (by decide) (Nat.le_of_ble_eq_true rfl) ?_
  obtain ⟨r1, ⟨p0, p1, p2, -⟩, -⟩ := hU.2.1
  refine sX7_swapLedgers_0 rfl ?_
  refine jX7_swapLedgers_1 (by assumption) (by assumption) ?_
  refine sX7_swapLedgers_4 ?_
  refine sX7_swapLedgers_5 rfl ?_
  refine sX7_swapLedgers_6 rfl ?_
  refine jX7_swapLedgers_7 (by assumption) (by assumption) ?_
  refine sX7_swapLedgers_10 r1 ?_
  refine sX7_swapLedgers_13 rfl ?_
  refine sX7_swapLedgers_14 rfl ?_
  exact sX7_swapLedgers_15 r1 (sX7_swapLedgers_18 k)
theorem c_begin4 (hU : UC g h w R L L' H) (hD : WD J w c so ln np nm T bn cs Lk Ck mk lo) (k : ∀ J', (∀ r, r < L ∨ L + 604 ≤ r → J' r = J r) → LE J' L (E0 so bn) c → Q none (xJ h J')) : ac g l mX4_begin [.ref L, .ref w] (xJ h J) Q := by
  refine ac_of (by decide) (Nat.le_of_ble_eq_true rfl) ?_
  obtain ⟨hQ, ⟨r1, -, -, -, ⟨t4, ⟨l0, l1, l2⟩, tv, tf, ts, hval⟩, -, lay⟩, -, hwR, -⟩ := hU
  obtain ⟨tw, ⟨-, -, p2, -, -, p5, -⟩, -, ⟨t6, -, -, t9, -⟩, -⟩ := hQ.1
  obtain ⟨hT, ⟨n1, hc, n3⟩, hd, -⟩ := hD
  refine nX4_begin_0 ?_
  refine sX4_begin_1 ?_
  suffices H : ∀ f i (J1 : Nat → Nat → Int32) (lv0 : List (Nat × Value)), i + f = c → (∀ r, r < L ∨ L + 604 ≤ r → J1 r = J r) → LE J1 L (E0 so bn) i → (∀ z ∈ ([(0, .ref L), (1, .ref w), (2, .int (nI i))] : List (Nat × Value)), z ∈ lv0) → aw g l mX4_begin 2 lv0 [] (xJ h J1) Q from H c 0 J _ (by omega) (fun _ _ => rfl) (fun k hk => by omega) (fun z hz => by simp only [List.mem_cons, List.not_mem_nil, or_false] at hz; rcases hz with rfl | rfl | rfl <;> exact xlk_mem rfl)
  intro f
  induction f with
  | zero =>
    intro i J1 lv0 hi o hE hlv
    refine aw_lv hlv ?_
    refine sX4_begin_2 rfl ?_
    refine sX4_begin_3 rfl ?_
    refine jX4_begin_4 (by assumption) ?_
    rw [o w (by omega), n1]
    refine nX4_begin_7 (by omega) (by omega) (fun _ => ?_) (fun z => absurd z (by omega))
    exact sX4_begin_72 (k J1 o (by rw [← show i = c by omega]; exact hE))
  | succ f ih =>
    intro i J1 lv0 hi o hE hlv
    refine aw_lv hlv ?_
    obtain ⟨a1, a2, -⟩ := hd i (by omega)
    have hso := (n3 i (by omega)).1
    have go : ∀ (t : Int32) (lv1 : List (Nat × Value)), (t = if so i = 0 then 1 else 0) → (∀ z ∈ ([(0, .ref L), (1, .ref w), (2, .int (nI i)), (3, .int t)] : List (Nat × Value)), z ∈ lv1) → aw g l mX4_begin 25 lv1 [] (xJ h J1) Q := by
      intro t lv1 ht hlv1
      refine aw_lv hlv1 ?_
      refine sX4_begin_25 rfl ?_
      refine jX4_begin_26 (by assumption) (by assumption) ?_
      refine sX4_begin_29 rfl ?_
      refine nX4_begin_30 ?_
      refine jX4_begin_31 (by assumption) (by omega) (by omega) ?_
      refine sX4_begin_32 rfl ?_
      refine jX4_begin_33 (by assumption) (by assumption) ?_
      refine sX4_begin_36 rfl ?_
      refine sX4_begin_37 rfl ?_
      by_cases z : so i = 0
      · rw [if_pos z] at ht; subst ht
        refine sX4_begin_38 (fun y => absurd y (by decide)) (fun _ => ?_)
        refine nX4_begin_41 ?_
        refine sX4_begin_42 ?_
        refine jX4_begin_46 ts (by omega) (by decide) ?_
        refine sX4_begin_47 rfl ?_
        refine sX4_begin_48 (fun y => absurd y (by decide)) (fun _ => ?_)
        refine sX4_begin_51 rfl ?_
        refine jX4_begin_52 (by assumption) (by assumption) ?_
        refine sX4_begin_55 rfl ?_
        obtain ⟨hp, hv⟩ := hval i (by omega)
        refine sX4_begin_56 (by show (xT h _).1 = 103; rw [tv]) (by show vp_in _ (xT h _).2; rw [tv]; exact vp_in_nI (by omega) (by decide)) (by show xP h _ _ = _; rw [nI_clamp (by omega)]; exact hp) ?_
        refine sX4_begin_57 rfl ?_
        refine jX4_begin_58 (by assumption) (by assumption) ?_
        refine sX4_begin_61 rfl ?_
        refine jX4_begin_62 (by assumption) (by omega) (by omega) ?_
        rw [xup2_r (by omega), xup2_r (by omega), o _ (by omega), a1]
        have tq := hv.1
        refine jX4_begin_63 (Nat.le_of_ble_eq_true rfl) (by assumption) ?_
        refine c_setBase hv (a2 z) (fun J2 o2 v2 => ?_)
        refine nX4_begin_66 rfl ?_
        refine sX4_begin_69 ?_
        refine ih (i + 1) J2 _ (by omega) (fun r hr => by rw [o2 r (by omega), xup2_r (by omega), xup2_r (by omega)]; exact o r hr) (fun k hk => ?_) (fun z hz => by simp only [List.mem_cons, List.not_mem_nil, or_false] at hz; rcases hz with rfl | rfl | rfl <;> exact xlk_mem rfl)
        rcases Nat.eq_or_lt_of_le (Nat.le_of_lt_succ hk) with e | e
        · subst e
          have e0 : E0 so bn k = some (0, bvO bn k) := if_pos z
          refine ⟨fun y => (by rw [e0] at y; cases y), fun r er => ?_⟩
          rw [e0] at er
          have := Option.some.inj er
          subst this
          exact ⟨(show (0 : Nat) < 100 by decide), Or.inr ⟨by rw [o2 _ (by omega), xup2_s], by rw [o2 _ (by omega), xup2_r (by omega), xup2_s], fun _ => ⟨v2, vWf_bv bn k⟩⟩⟩
        · obtain ⟨b1, b2⟩ := hE k e
          have e3 : J2 (L + 3) k = J1 (L + 3) k := by rw [o2 _ (by omega), xup2_n (by omega), xup2_r (by omega)]
          have e2 : J2 (L + 2) k = J1 (L + 2) k := by rw [o2 _ (by omega), xup2_r (by omega), xup2_n (by omega)]
          rw [e3, e2]
          refine ⟨b1, fun r er => ⟨(b2 r er).1, ?_⟩⟩
          rcases (b2 r er).2 with d | ⟨d1, d2, d3⟩
          · exact Or.inl d
          · exact Or.inr ⟨d1, d2, fun y => ⟨VJ_c (fun q q1 q2 => by rw [o2 q (by omega), xup2_r (by omega), xup2_r (by omega)]) (d3 y).1, (d3 y).2⟩⟩
      · rw [if_neg z] at ht; subst ht
        refine sX4_begin_38 (fun _ => ?_) (fun y => absurd rfl y)
        refine nX4_begin_45 ?_
        refine jX4_begin_46 ts (by omega) (by decide) ?_
        refine sX4_begin_47 rfl ?_
        refine sX4_begin_48 (fun _ => ?_) (fun y => absurd rfl y)
        refine nX4_begin_66 rfl ?_
        refine sX4_begin_69 ?_
        refine ih (i + 1) _ _ (by omega) (fun r hr => by rw [xup2_r (by omega), xup2_r (by omega)]; exact o r hr) (fun k hk => ?_) (fun z hz => by simp only [List.mem_cons, List.not_mem_nil, or_false] at hz; rcases hz with rfl | rfl | rfl <;> exact xlk_mem rfl)
        rcases Nat.eq_or_lt_of_le (Nat.le_of_lt_succ hk) with e | e
        · subst e
          have e0 : E0 so bn k = none := if_neg z
          exact ⟨fun _ => by rw [xup2_s], fun r er => by rw [e0] at er; cases er⟩
        · obtain ⟨b1, b2⟩ := hE k e
          rw [xup2_n (by omega), xup2_r (by omega), xup2_r (by omega), xup2_n (by omega)]
          refine ⟨b1, fun r er => ⟨(b2 r er).1, ?_⟩⟩
          rcases (b2 r er).2 with d | ⟨d1, d2, d3⟩
          · exact Or.inl d
          · exact Or.inr ⟨d1, d2, fun y => ⟨VJ_c (fun q q1 q2 => by rw [xup2_r (by omega), xup2_r (by omega)]) (d3 y).1, (d3 y).2⟩⟩
    refine sX4_begin_2 rfl ?_
    refine sX4_begin_3 rfl ?_
    refine jX4_begin_4 (by assumption) ?_
    rw [o w (by omega), n1]
    refine nX4_begin_7 (by omega) (by omega) (fun z => absurd z (by omega)) (fun _ => ?_)
    refine sX4_begin_10 rfl ?_
    refine jX4_begin_11 (by assumption) (by assumption) ?_
    refine sX4_begin_14 rfl ?_
    refine jX4_begin_15 (by assumption) (by omega) (by omega) ?_
    rw [o _ (by omega), hso.1]
    refine nX4_begin_16 (by omega) (fun z => ?_) (fun z => ?_)
    · refine sX4_begin_23 ?_
      refine sX4_begin_24 ?_
      exact go 0 _ (by rw [if_neg z]) (fun z hz => by simp only [List.mem_cons, List.not_mem_nil, or_false] at hz; rcases hz with rfl | rfl | rfl | rfl <;> exact xlk_mem rfl)
    · refine sX4_begin_19 ?_
      refine sX4_begin_20 ?_
      refine sX4_begin_24 ?_
      exact go 1 _ (by rw [if_pos z]) (fun z hz => by simp only [List.mem_cons, List.not_mem_nil, or_false] at hz; rcases hz with rfl | rfl | rfl | rfl <;> exact xlk_mem rfl)
theorem c_firstNew {n : Nat} (hL : CLd h L) (hE : LE J L E c) (hc : c ≤ 100) (hn : n ≤ c) (k : ∀ o : Option Nat, (o = none → ∀ i, n ≤ i → i < c → E i ≠ none) → (∀ j, o = some j → n ≤ j ∧ j < c ∧ E j = none ∧ ∀ i, n ≤ i → i < j → E i ≠ none) → Q (some (.int (oI o))) (xJ h J)) : ac g l mX4_firstNew [.ref L, .int (nI n), .int (nI c)] (xJ h J) Q := by
  refine ac_of (by decide) (Nat.le_of_ble_eq_true rfl) ?_
  obtain ⟨t4, ⟨l0, l1, l2⟩, tv, tf, ts, -⟩ := hL
  refine sX4_firstNew_0 rfl ?_
  refine sX4_firstNew_1 ?_
  suffices H : ∀ f i (lv0 : List (Nat × Value)), i + f = c → n ≤ i → (∀ j, n ≤ j → j < i → E j ≠ none) → (∀ z ∈ ([(0, .ref L), (2, .int (nI c)), (3, .int (nI i))] : List (Nat × Value)), z ∈ lv0) → aw g l mX4_firstNew 2 lv0 [] (xJ h J) Q from H (c - n) n _ (by omega) (Nat.le_refl _) (fun j a1 a2 => by omega) (fun z hz => by simp only [List.mem_cons, List.not_mem_nil, or_false] at hz; rcases hz with rfl | rfl | rfl <;> exact xlk_mem rfl)
  intro f
  induction f with
  | zero =>
    intro i lv0 hi hni ho hlv
    refine aw_lv hlv ?_
    refine sX4_firstNew_2 rfl ?_
    refine sX4_firstNew_3 rfl ?_
    refine nX4_firstNew_4 (by omega) (by omega) (fun _ => ?_) (fun z => absurd z (by omega))
    refine sX4_firstNew_24 ?_
    exact sX4_firstNew_25 (k none (fun _ i a1 a2 => ho i a1 (by omega)) (fun j e => by cases e))
  | succ f ih =>
    intro i lv0 hi hni ho hlv
    refine aw_lv hlv ?_
    obtain ⟨z0, z1⟩ := LE_0 hE (show i < c by omega)
    refine sX4_firstNew_2 rfl ?_
    refine sX4_firstNew_3 rfl ?_
    refine nX4_firstNew_4 (by omega) (by omega) (fun z => absurd z (by omega)) (fun _ => ?_)
    refine sX4_firstNew_7 rfl ?_
    refine jX4_firstNew_8 (by assumption) (by assumption) ?_
    refine sX4_firstNew_11 rfl ?_
    refine jX4_firstNew_12 (by assumption) (by omega) (by omega) ?_
    cases e : E i with
    | none =>
      rw [z0 e]
      refine nX4_firstNew_13 (by decide) (fun z => absurd rfl z) (fun _ => ?_)
      refine sX4_firstNew_16 rfl ?_
      refine sX4_firstNew_17 (k (some i) (fun e => by cases e) (fun j ej => ?_))
      have := Option.some.inj ej
      subst this
      exact ⟨hni, by omega, e, ho⟩
    | some r =>
      refine sX4_firstNew_13 (fun _ => ?_) (fun z => absurd z (z1 r e))
      refine nX4_firstNew_18 rfl ?_
      refine sX4_firstNew_21 ?_
      refine ih (i + 1) _ (by omega) (by omega) (fun j a1 a2 => ?_) (fun z hz => by simp only [List.mem_cons, List.not_mem_nil, or_false] at hz; rcases hz with rfl | rfl | rfl <;> exact xlk_mem rfl)
      rcases Nat.eq_or_lt_of_le (Nat.le_of_lt_succ a2) with e' | e'
      · rw [e', e]; intro y; cases y
      · exact ho j a1 e'
theorem c_firstEndless {fo : Nat → Nat} (hL : CLd h L) (hc : c ≤ 100) (hf : ∀ k, k < c → J (L + 2) k = nI (fo k) ∧ fo k < 100) (k : ∀ o : Option Nat, (o = none → ∀ i, i < c → fo i ≠ 4) → (∀ j, o = some j → j < c ∧ fo j = 4 ∧ ∀ i, i < j → fo i ≠ 4) → Q (some (.int (oI o))) (xJ h J)) : ac g l mX4_firstEndless [.ref L, .int (nI c)] (xJ h J) Q := by
  refine ac_of (by decide) (Nat.le_of_ble_eq_true rfl) ?_
  obtain ⟨t4, ⟨l0, l1, l2⟩, tv, tf, ts, -⟩ := hL
  refine nX4_firstEndless_0 ?_
  refine sX4_firstEndless_1 ?_
  suffices H : ∀ f i (lv0 : List (Nat × Value)), i + f = c → (∀ j, j < i → fo j ≠ 4) → (∀ z ∈ ([(0, .ref L), (1, .int (nI c)), (2, .int (nI i))] : List (Nat × Value)), z ∈ lv0) → aw g l mX4_firstEndless 2 lv0 [] (xJ h J) Q from H c 0 _ (by omega) (fun j a => by omega) (fun z hz => by simp only [List.mem_cons, List.not_mem_nil, or_false] at hz; rcases hz with rfl | rfl | rfl <;> exact xlk_mem rfl)
  intro f
  induction f with
  | zero =>
    intro i lv0 hi ho hlv
    refine aw_lv hlv ?_
    refine sX4_firstEndless_2 rfl ?_
    refine sX4_firstEndless_3 rfl ?_
    refine nX4_firstEndless_4 (by omega) (by omega) (fun _ => ?_) (fun z => absurd z (by omega))
    refine sX4_firstEndless_25 ?_
    exact sX4_firstEndless_26 (k none (fun _ i a2 => ho i (by omega)) (fun j e => by cases e))
  | succ f ih =>
    intro i lv0 hi ho hlv
    refine aw_lv hlv ?_
    obtain ⟨z0, z1⟩ := hf i (by omega)
    refine sX4_firstEndless_2 rfl ?_
    refine sX4_firstEndless_3 rfl ?_
    refine nX4_firstEndless_4 (by omega) (by omega) (fun z => absurd z (by omega)) (fun _ => ?_)
    refine sX4_firstEndless_7 rfl ?_
    refine jX4_firstEndless_8 (by assumption) (by assumption) ?_
    refine sX4_firstEndless_11 rfl ?_
    refine jX4_firstEndless_12 (by assumption) (by omega) (by omega) ?_
    rw [z0]
    refine nX4_firstEndless_13 ?_
    refine nX4_firstEndless_14 (by omega) (by decide) (fun y => ?_) (fun y => ?_)
    · refine nX4_firstEndless_19 rfl ?_
      refine sX4_firstEndless_22 ?_
      refine ih (i + 1) _ (by omega) (fun j a2 => ?_) (fun z hz => by simp only [List.mem_cons, List.not_mem_nil, or_false] at hz; rcases hz with rfl | rfl | rfl <;> exact xlk_mem rfl)
      rcases Nat.eq_or_lt_of_le (Nat.le_of_lt_succ a2) with e' | e'
      · rw [e']; exact y
      · exact ho j e'
    · refine sX4_firstEndless_17 rfl ?_
      refine sX4_firstEndless_18 (k (some i) (fun e => by cases e) (fun j ej => ?_))
      have := Option.some.inj ej
      subst this
      exact ⟨by omega, y, ho⟩
end Settle1
