/-! ===== the class's Reckoner at R: Ledgers R + 1 and R + 605, stack R + 1209, rows R + 1210 .. R + 1212, Bench R + 1213 ===== -/
def CLd (h : xH) (L : Nat) : Prop := (xT h L).1 = 4 ∧ (xP h L 0 = some (L + 1) ∧ xP h L 1 = some (L + 2) ∧ xP h L 2 = some (L + 3)) ∧ xT h (L + 1) = (103, 100) ∧ xT h (L + 2) = (100, 100) ∧ xT h (L + 3) = (100, 100) ∧ ∀ k, k < 100 → xP h (L + 1) k = some (L + 4 + 6 * k) ∧ CV h (L + 4 + 6 * k)
def CR (h : xH) (R L L' : Nat) : Prop := (xT h R).1 = 7 ∧ (xP h R 0 = some (R + 1213) ∧ xP h R 1 = some L ∧ xP h R 2 = some L' ∧ xP h R 3 = some (R + 1209) ∧ xP h R 5 = some (R + 1210) ∧ xP h R 6 = some (R + 1211) ∧ xP h R 7 = some (R + 1212)) ∧ (xT h (R + 1210) = (100, 100) ∧ xT h (R + 1211) = (100, 100) ∧ xT h (R + 1212) = (100, 100)) ∧ CB h (R + 1213) ∧ CLd h L ∧ CLd h L' ∧ (L = R + 1 ∧ L' = R + 605 ∨ L = R + 605 ∧ L' = R + 1)
def UC (g : xG) (h : xH) (w R L L' H : Nat) : Prop := CQ h w ∧ CR h R L L' ∧ SH h R H ∧ w + 18 ≤ R ∧ g.2.2.1 ≤ H ∧ g.2.2.2 < w ∧ xT h g.2.2.2 = (104, 10)
theorem CQ_e {h h' : xH} {w : Nat} (T : ∀ a, a < w + 18 → xT h' a = xT h a) (P : ∀ a, a < w + 18 → xP h' a = xP h a) (hQ : CQ h w) : CQ h' w := by
  unfold CQ CW CK at hQ ⊢
  obtain ⟨⟨a1, ⟨b1, b2, b3, b4, b5, b6, b7, b8, b9⟩, c1, ⟨d1, d2, d3, d4, d5, d6, d7⟩, e1, ⟨f1, f2, f3⟩, g1, g2, g3⟩, h1, ⟨i1, i2, i3⟩, j1, j2, k1, k2, k3⟩ := hQ
  repeat' refine And.intro ?_ ?_
  all_goals first | (rw [T _ (by omega)]; assumption) | (rw [P _ (by omega)]; assumption)
theorem CLd_e {h h' : xH} {L : Nat} (T : ∀ a, L ≤ a → a < L + 604 → xT h' a = xT h a) (P : ∀ a, L ≤ a → a < L + 604 → xP h' a = xP h a) (hL : CLd h L) : CLd h' L := by
  obtain ⟨a1, ⟨b1, b2, b3⟩, c1, c2, c3, d⟩ := hL
  refine ⟨by rw [T _ (by omega) (by omega)]; exact a1, ⟨by rw [P _ (by omega) (by omega)]; exact b1, by rw [P _ (by omega) (by omega)]; exact b2, by rw [P _ (by omega) (by omega)]; exact b3⟩, by rw [T _ (by omega) (by omega)]; exact c1, by rw [T _ (by omega) (by omega)]; exact c2, by rw [T _ (by omega) (by omega)]; exact c3, fun k hk => ⟨by rw [P _ (by omega) (by omega)]; exact (d k hk).1, ?_⟩⟩
  obtain ⟨v1, ⟨v2, v3, v4⟩, ⟨n1, n2, n3⟩, ⟨m1, m2, m3⟩, v7⟩ := (d k hk).2
  refine ⟨by rw [T _ (by omega) (by omega)]; exact v1, ⟨by rw [P _ (by omega) (by omega)]; exact v2, by rw [P _ (by omega) (by omega)]; exact v3, by rw [P _ (by omega) (by omega)]; exact v4⟩, ⟨by rw [T _ (by omega) (by omega)]; exact n1, by rw [P _ (by omega) (by omega)]; exact n2, by rw [T _ (by omega) (by omega)]; exact n3⟩, ⟨by rw [T _ (by omega) (by omega)]; exact m1, by rw [P _ (by omega) (by omega)]; exact m2, by rw [T _ (by omega) (by omega)]; exact m3⟩, by rw [T _ (by omega) (by omega)]; exact v7⟩
theorem UC_x {g : xG} {h h' : xH} {w R L L' H : Nat} (hx : hX R h h') (hS' : SH h' R H) (hU : UC g h w R L L' H) : UC g h' w R L L' H := by
  obtain ⟨hQ, ⟨r1, ⟨p0, p1, p2, p3, p5, p6, p7⟩, ⟨t0, t1, t2⟩, hB, l1, l2, lay⟩, hS, hwR, hlo, htn, ht⟩ := hU
  obtain ⟨s1, s2, s3, s4⟩ := id hS
  have T : ∀ a, a < R + 1226 → xT h' a = xT h a := fun a ha => hx.2.1 a (by omega)
  have P : ∀ a, a < R + 1226 → a ≠ R + 1209 → xP h' a = xP h a := fun a ha hn => hx.2.2.1 a (by omega) hn
  refine ⟨CQ_e (fun a ha => T a (by omega)) (fun a ha => P a (by omega) (by omega)) hQ, ⟨by rw [T _ (by omega)]; exact r1, ?_, ⟨by rw [T _ (by omega)]; exact t0, by rw [T _ (by omega)]; exact t1, by rw [T _ (by omega)]; exact t2⟩, CB_x hx (by omega) (by rw [s1]) hB, CLd_e (fun a b1 b2 => T a (by omega)) (fun a b1 b2 => P a (by omega) (by omega)) l1, CLd_e (fun a b1 b2 => T a (by omega)) (fun a b1 b2 => P a (by omega) (by omega)) l2, lay⟩, hS', hwR, hlo, htn, by rw [T _ (by omega)]; exact ht⟩
  rw [P R (by omega) (by omega)]
  exact ⟨p0, p1, p2, p3, p5, p6, p7⟩
/-- the class's stack, the top first -/
def SJ (h : xH) (J : Nat → Nat → Int32) (R : Nat) : List Vl → Prop
  | [] => True
  | v :: V => (∃ q, xP h (R + 1209) V.length = some q ∧ VJ J q v ∧ vWf v) ∧ SJ h J R V
theorem SJ_keep {h h' : xH} {J J' : Nat → Nat → Int32} {R H n q : Nat} (hx : hX R h h') (hS : SH h R H) (hS' : SH h' R H) (hq : xP h' (R + 1209) n = some q) (hn : n < 6767) (hJ : ∀ r, H ≤ r → r < h.1 → r < q ∨ q + 6 ≤ r → J' r = J r) : ∀ {V : List Vl}, V.length ≤ n → SJ h J R V → SJ h' J' R V
  | [], _, _ => trivial
  | v :: V, hl, ⟨⟨p, h1, h2, h3⟩, h4⟩ => by
    have hl' : V.length + 1 ≤ n := hl
    refine ⟨⟨p, hx.2.2.2 _ _ h1, VJ_c (fun r a c => ?_) h2, h3⟩, SJ_keep hx hS hS' hq hn hJ (by omega) h4⟩
    obtain ⟨s1, s2, s3, s4⟩ := hS.2.2.2.1 V.length p (by omega) h1
    obtain ⟨u1, u2, u3, u4⟩ := hS'.2.2.2.1 V.length p (by omega) (hx.2.2.2 _ _ h1)
    obtain ⟨w1, w2, w3, w4⟩ := hS'.2.2.2.1 n q hn hq
    have hne : p ≠ q := fun e => by
      rw [e] at u4
      have := u4 n hn hq
      omega
    have far := CV_far w3 u3 hne
    exact hJ r (by omega) (by omega) (by omega)
theorem SJ_same {h h' : xH} {J J' : Nat → Nat → Int32} {R H : Nat} (hx : hX R h h') (hS : SH h R H) (hJ : ∀ r, H ≤ r → r < h.1 → J' r = J r) : ∀ {V : List Vl}, V.length ≤ 6767 → SJ h J R V → SJ h' J' R V
  | [], _, _ => trivial
  | v :: V, hl, ⟨⟨p, h1, h2, h3⟩, h4⟩ => by
    have hl' : V.length + 1 ≤ 6767 := hl
    obtain ⟨s1, s2, s3, s4⟩ := hS.2.2.2.1 V.length p (by omega) h1
    exact ⟨⟨p, hx.2.2.2 _ _ h1, VJ_c (fun r a c => hJ r (by omega) (by omega)) h2, h3⟩, SJ_same hx hS hJ (by omega) h4⟩
/-- what the class knows of the DEFINITIONS -/
def LE (J : Nat → Nat → Int32) (L : Nat) (E : Nat → Option (Nat × Vl)) (c : Nat) : Prop := ∀ k, k < c → (E k = none → J (L + 3) k = nI 0) ∧ ∀ r, E k = some r → r.1 < 100 ∧ (J (L + 3) k = nI 1 ∧ r.1 = 4 ∨ J (L + 3) k = nI 2 ∧ J (L + 2) k = nI r.1 ∧ (r.1 = 0 → VJ J (L + 4 + 6 * k) r.2 ∧ vWf r.2))
section Run1
variable {g : xG} {l : Launch} {h : xH} {J : Nat → Nat → Int32} {Q : Option Value → xH → Prop} {R L L' c w H : Nat} {E : Nat → Option (Nat × Vl)}
theorem c_slotS {i q : Nat} (hS : SH h R H) (t7 : (xT h R).1 = 7) (p3 : xP h R 3 = some (R + 1209)) (hi : i < 6767) (e : xP h (R + 1209) i = some q) (k : Q (some (.ref q)) (xJ h J)) : ac g l mX7_slot [.ref R, .int (nI i)] (xJ h J) Q := by
  refine ac_of (by decide) (Nat.le_of_ble_eq_true rfl) ?_
  have ts := hS.1
  have vin : vp_in (nI i) 6767 := vp_in_nI hi (by decide)
  have cli : (nI i).toNatClampNeg = i := nI_clamp (by omega)
  refine nX7_slot_0 ?_
  refine sX7_slot_1 rfl ?_
  refine nX7_slot_2 ?_
  refine mX7_slot_5n (Nat.le_of_ble_eq_true rfl) (by omega) (by omega) ?_
  rw [Nat.min_eq_left (by omega)]
  refine mX7_slot_8n (Nat.le_of_ble_eq_true rfl) (by omega) (by omega) ?_
  rw [Nat.max_eq_right (Nat.zero_le _)]
  refine sX7_slot_11 ?_
  refine sX7_slot_12 rfl ?_
  refine jX7_slot_13 (by assumption) (by assumption) ?_
  refine sX7_slot_16 rfl ?_
  refine sX7_slot_17 (by show (xT h _).1 = 103; rw [ts]) (by show vp_in _ (xT h _).2; rw [ts]; exact vin) (by show xP h _ _ = _; rw [cli]; exact e) ?_
  refine sX7_slot_18 ?_
  refine sX7_slot_34 rfl ?_
  refine jX7_slot_35 (by assumption) (by assumption) ?_
  refine sX7_slot_38 rfl ?_
  exact sX7_slot_39 (by show (xT h _).1 = 103; rw [ts]) (by show vp_in _ (xT h _).2; rw [ts]; exact vin) (by show xP h _ _ = _; rw [cli]; exact e) (sX7_slot_40 k)
theorem c_faultOfName {k : Nat} {r : Nat × Vl} (hR : CR h R L L') (hE : LE J L E c) (hc : c ≤ 100) (hk : k < c) (e : E k = some r) (kk : Q (some (.int (nI r.1))) (xJ h J)) : ac g l mX7_faultOfName [.ref R, .int (nI k)] (xJ h J) Q := by
  refine ac_of (by decide) (Nat.le_of_ble_eq_true rfl) ?_
  obtain ⟨t7, ⟨-, p1, -⟩, -, -, ⟨t4, ⟨l0, l1, l2⟩, u1, u2, u3, -⟩, -, -⟩ := hR
  obtain ⟨r1, r2⟩ := (hE k hk).2 r e
  refine sX7_faultOfName_0 rfl ?_
  refine jX7_faultOfName_1 (by assumption) (by assumption) ?_
  refine jX7_faultOfName_4 (by assumption) (by assumption) ?_
  refine sX7_faultOfName_7 rfl ?_
  refine jX7_faultOfName_8 (by assumption) (by omega) (by omega) ?_
  rcases r2 with ⟨s1, s2⟩ | ⟨s1, s2, -⟩
  · rw [s1, ]
    refine nX7_faultOfName_9 ?_
    refine nX7_faultOfName_10 (by decide) (by decide) (fun z => absurd rfl z) (fun _ => ?_)
    refine nX7_faultOfName_13 ?_
    refine sX7_faultOfName_14 ?_
    rw [s2] at kk
    exact sX7_faultOfName_26 kk
  · rw [s1]
    refine nX7_faultOfName_9 ?_
    refine nX7_faultOfName_10 (by decide) (by decide) (fun _ => ?_) (fun z => absurd z (by decide))
    refine sX7_faultOfName_17 rfl ?_
    refine jX7_faultOfName_18 (by assumption) (by assumption) ?_
    refine jX7_faultOfName_21 (by assumption) (by assumption) ?_
    refine sX7_faultOfName_24 rfl ?_
    refine jX7_faultOfName_25 (by assumption) (by omega) (by omega) ?_
    rw [s2]
    exact sX7_faultOfName_26 kk
theorem LE_0 {k : Nat} (hE : LE J L E c) (hk : k < c) : (E k = none → J (L + 3) k = nI 0) ∧ ∀ r, E k = some r → J (L + 3) k ≠ nI 0 := by
  refine ⟨(hE k hk).1, fun r e => ?_⟩
  rcases ((hE k hk).2 r e).2 with ⟨s1, -⟩ | ⟨s1, -⟩ <;> rw [s1] <;> decide
/-- a DEFINITION that must come first, if there is one -/
theorem c_firstNeeded {p t : Option Nat} {x : Int32} (hR : CR h R L L') (hE : LE J L E c) (hc : c ≤ 100) (hp : ∀ k, p = some k → k < c) (ht : ∀ k, t = some k → k < c) (hx : (∃ k, p = some k ∧ E k = none ∧ x = nI k) ∨ (∃ k r, p = some k ∧ E k = some r ∧ r.1 ≠ 0 ∧ x = -1) ∨ ((p = none ∨ ∃ k r, p = some k ∧ E k = some r ∧ r.1 = 0) ∧ ((∃ k, t = some k ∧ E k = none ∧ x = nI k) ∨ (∃ k r, t = some k ∧ E k = some r ∧ x = -1) ∨ t = none ∧ x = -1))) (kk : Q (some (.int x)) (xJ h J)) : ac g l mX7_firstNeeded [.ref R, .int (oI p), .int (oI t)] (xJ h J) Q := by
  refine ac_of (by decide) (Nat.le_of_ble_eq_true rfl) ?_
  have hR' := hR
  obtain ⟨t7, ⟨-, p1, -⟩, -, -, ⟨t4, ⟨l0, l1, l2⟩, u1, u2, u3, -⟩, -, -⟩ := hR
  have snd : ∀ lv0 : List (Nat × Value), ((∃ k, t = some k ∧ E k = none ∧ x = nI k) ∨ (∃ k r, t = some k ∧ E k = some r ∧ x = -1) ∨ t = none ∧ x = -1) → (∀ z ∈ ([(0, .ref R), (2, .int (oI t))] : List (Nat × Value)), z ∈ lv0) → aw g l mX7_firstNeeded 29 lv0 [] (xJ h J) Q := by
    intro lv0 hh hlv
    refine aw_lv hlv ?_
    refine sX7_firstNeeded_29 rfl ?_
    refine sX7_firstNeeded_30 ?_
    cases t with
    | none =>
      have ex : x = -1 := by
        rcases hh with ⟨k, e, -⟩ | ⟨k, r, e, -⟩ | ⟨-, e⟩
        · cases e
        · cases e
        · exact e
      subst ex
      refine sX7_firstNeeded_31 (fun _ => ?_) (fun z => absurd rfl z)
      refine sX7_firstNeeded_50 ?_
      exact sX7_firstNeeded_51 kk
    | some k =>
      have hk := ht k rfl
      refine sX7_firstNeeded_31 (fun z => absurd z (oI_neg (by omega))) (fun _ => ?_)
      obtain ⟨z0, z1⟩ := LE_0 hE hk
      show aw g l mX7_firstNeeded 34 _ [] _ Q
      refine sX7_firstNeeded_34 rfl ?_
      refine jX7_firstNeeded_35 (by assumption) (by assumption) ?_
      refine jX7_firstNeeded_38 (by assumption) (by assumption) ?_
      refine sX7_firstNeeded_41 (x := nI k) rfl ?_
      refine jX7_firstNeeded_42 (by assumption) (by omega) (by omega) ?_
      rcases hh with ⟨k', e, e0, ex⟩ | ⟨k', r, e, e0, ex⟩ | ⟨e, -⟩
      · have := Option.some.inj e; subst this; subst ex
        rw [z0 e0]
        refine nX7_firstNeeded_43 (by decide) (fun z => absurd rfl z) (fun _ => ?_)
        refine sX7_firstNeeded_46 rfl ?_
        refine sX7_firstNeeded_47 ?_
        exact sX7_firstNeeded_51 kk
      · have := Option.some.inj e; subst this; subst ex
        refine sX7_firstNeeded_43 (fun _ => ?_) (fun z => absurd z (z1 r e0))
        refine sX7_firstNeeded_50 ?_
        exact sX7_firstNeeded_51 kk
      · cases e
  refine sX7_firstNeeded_0 rfl ?_
  refine sX7_firstNeeded_1 ?_
  cases p with
  | none =>
    refine sX7_firstNeeded_2 (fun _ => ?_) (fun z => absurd rfl z)
    refine snd _ ?_ (fun z hz => by simp only [List.mem_cons, List.not_mem_nil, or_false] at hz; rcases hz with rfl | rfl <;> exact xlk_mem rfl)
    rcases hx with ⟨k, e, -⟩ | ⟨k, r, e, -⟩ | ⟨-, e⟩
    · cases e
    · cases e
    · exact e
  | some k =>
    have hk := hp k rfl
    obtain ⟨z0, z1⟩ := LE_0 hE hk
    refine sX7_firstNeeded_2 (fun z => absurd z (oI_neg (by omega))) (fun _ => ?_)
    refine sX7_firstNeeded_5 rfl ?_
    refine jX7_firstNeeded_6 (by assumption) (by assumption) ?_
    refine jX7_firstNeeded_9 (by assumption) (by assumption) ?_
    refine sX7_firstNeeded_12 (x := nI k) rfl ?_
    refine jX7_firstNeeded_13 (by assumption) (by omega) (by omega) ?_
    rcases hx with ⟨k', e, e0, ex⟩ | ⟨k', r, e, e0, e1, ex⟩ | ⟨e, hh⟩
    · have := Option.some.inj e; subst this; subst ex
      rw [z0 e0]
      refine nX7_firstNeeded_14 (by decide) (fun z => absurd rfl z) (fun _ => ?_)
      refine sX7_firstNeeded_17 rfl ?_
      exact sX7_firstNeeded_18 kk
    · have := Option.some.inj e; subst this; subst ex
      refine sX7_firstNeeded_14 (fun _ => ?_) (fun z => absurd z (z1 r e0))
      refine sX7_firstNeeded_19 rfl ?_
      refine sX7_firstNeeded_20 (x := nI k) rfl ?_
      refine jX7_firstNeeded_21 (Nat.le_of_ble_eq_true rfl) (by assumption) ?_
      refine c_faultOfName hR' hE hc hk e0 ?_
      have := ((hE k hk).2 r e0).1
      refine nX7_firstNeeded_24 (by omega) (fun z => absurd z e1) (fun _ => ?_)
      refine sX7_firstNeeded_27 ?_
      exact sX7_firstNeeded_28 kk
    · rcases e with e | ⟨k', r, e, e0, e1⟩
      · cases e
      have := Option.some.inj e; subst this
      refine sX7_firstNeeded_14 (fun _ => ?_) (fun z => absurd z (z1 r e0))
      refine sX7_firstNeeded_19 rfl ?_
      refine sX7_firstNeeded_20 (x := nI k) rfl ?_
      refine jX7_firstNeeded_21 (Nat.le_of_ble_eq_true rfl) (by assumption) ?_
      refine c_faultOfName hR' hE hc hk e0 ?_
      have := ((hE k hk).2 r e0).1
      refine nX7_firstNeeded_24 (by omega) (fun _ => ?_) (fun z => absurd e1 z)
      exact snd _ hh (fun z hz => by simp only [List.mem_cons, List.not_mem_nil, or_false] at hz; rcases hz with rfl | rfl <;> exact xlk_mem rfl)
theorem c_faultOfMeaning {p t : Option Nat} {f : Nat} (hR : CR h R L L') (hE : LE J L E c) (hc : c ≤ 100) (hp : ∀ k, p = some k → k < c) (ht : ∀ k, t = some k → k < c) (hx : t = none ∧ f = 5 ∨ (∃ k r k', p = some k ∧ t = some k' ∧ E k = some r ∧ r.1 ≠ 0 ∧ f = r.1) ∨ ((p = none ∨ ∃ k r, p = some k ∧ E k = some r ∧ r.1 = 0) ∧ ∃ k r, t = some k ∧ E k = some r ∧ f = r.1)) (kk : Q (some (.int (nI f))) (xJ h J)) : ac g l mX7_faultOfMeaning [.ref R, .int (oI p), .int (oI t)] (xJ h J) Q := by
  refine ac_of (by decide) (Nat.le_of_ble_eq_true rfl) ?_
  have hR' := hR
  have t7 := hR.1
  refine sX7_faultOfMeaning_0 rfl ?_
  refine sX7_faultOfMeaning_1 ?_
  cases t with
  | none =>
    have ef : f = 5 := by
      rcases hx with ⟨-, e⟩ | ⟨k, r, k', -, e, -⟩ | ⟨-, k, r, e, -⟩
      · exact e
      · cases e
      · cases e
    subst ef
    refine sX7_faultOfMeaning_2 (fun z => absurd rfl z) (fun _ => ?_)
    refine nX7_faultOfMeaning_5 ?_
    exact sX7_faultOfMeaning_6 kk
  | some k2 =>
    have hk2 := ht k2 rfl
    have snd : ∀ (r : Nat × Vl) (lv0 : List (Nat × Value)), E k2 = some r → f = r.1 → (∀ z ∈ ([(0, .ref R), (2, .int (nI k2)), (3, .int (nI 0))] : List (Nat × Value)), z ∈ lv0) → aw g l mX7_faultOfMeaning 22 lv0 [] (xJ h J) Q := by
      intro r lv0 e ef hlv
      refine aw_lv hlv ?_
      refine sX7_faultOfMeaning_22 rfl ?_
      refine nX7_faultOfMeaning_23 (by decide) (fun _ => ?_) (fun z => absurd rfl z)
      refine sX7_faultOfMeaning_30 rfl ?_
      refine sX7_faultOfMeaning_31 rfl ?_
      refine jX7_faultOfMeaning_32 (Nat.le_of_ble_eq_true rfl) (by assumption) ?_
      refine c_faultOfName hR' hE hc hk2 e ?_
      rw [← ef]
      exact sX7_faultOfMeaning_35 kk
    refine sX7_faultOfMeaning_2 (fun _ => ?_) (fun z => absurd z (oI_neg (by omega)))
    refine sX7_faultOfMeaning_7 rfl ?_
    refine sX7_faultOfMeaning_8 ?_
    cases p with
    | none =>
      refine sX7_faultOfMeaning_9 (fun z => absurd rfl z) (fun _ => ?_)
      refine nX7_faultOfMeaning_12 ?_
      refine sX7_faultOfMeaning_13 ?_
      refine sX7_faultOfMeaning_21 ?_
      rcases hx with ⟨e, -⟩ | ⟨k, r, k', e, -⟩ | ⟨-, k, r, e, e1, e2⟩
      · cases e
      · cases e
      · have := Option.some.inj e; subst this
        exact snd r _ e1 e2 (fun z hz => by simp only [List.mem_cons, List.not_mem_nil, or_false] at hz; rcases hz with rfl | rfl | rfl <;> exact xlk_mem rfl)
    | some k1 =>
      have hk1 := hp k1 rfl
      refine sX7_faultOfMeaning_9 (fun _ => ?_) (fun z => absurd z (oI_neg (by omega)))
      refine sX7_faultOfMeaning_16 rfl ?_
      refine sX7_faultOfMeaning_17 (x := nI k1) rfl ?_
      refine jX7_faultOfMeaning_18 (Nat.le_of_ble_eq_true rfl) (by assumption) ?_
      rcases hx with ⟨e, -⟩ | ⟨k, r, k', e, e', e1, e2, e3⟩ | ⟨e, k, r, e0, e1, e2⟩
      · cases e
      · have := Option.some.inj e; subst this
        refine c_faultOfName hR' hE hc hk1 e1 ?_
        have := ((hE k1 hk1).2 r e1).1
        refine sX7_faultOfMeaning_21 ?_
        refine sX7_faultOfMeaning_22 rfl ?_
        refine nX7_faultOfMeaning_23 (by omega) (fun z => absurd z e2) (fun _ => ?_)
        refine sX7_faultOfMeaning_26 rfl ?_
        refine sX7_faultOfMeaning_27 ?_
        rw [← e3]
        exact sX7_faultOfMeaning_35 kk
      · rcases e with e | ⟨k', r', e, e3, e4⟩
        · cases e
        have := Option.some.inj e; subst this
        have := Option.some.inj e0; subst this
        refine c_faultOfName hR' hE hc hk1 e3 ?_
        rw [e4]
        refine sX7_faultOfMeaning_21 ?_
        exact snd r _ e1 e2 (fun z hz => by simp only [List.mem_cons, List.not_mem_nil, or_false] at hz; rcases hz with rfl | rfl | rfl <;> exact xlk_mem rfl)
theorem c_actBin {e a b B op : Nat} {x y : Vl} {n : Int32} (hB : CB h e) (hA : CV h a) (hD : CV h b) (hne : b ≠ a) (hx : VJ J a x) (hy : VJ J b y) (wx : vWf x) (wy : vWf y) (hb : J e 0 = nI B) (hb2 : B ≤ 512) (ho : op = 11 ∨ op = 12 ∨ op = 14 ∨ op = 15 ∨ op = 18) (k : actP h e a J (bin B op x y) Q) : ac g l mX0_act [.ref e, .int (nI op), .int n, .ref a, .ref b] (xJ h J) Q := by
  rcases ho with rfl | rfl | rfl | rfl | rfl
  · exact c_actAdd hB hA hD hne hx hy wx wy hb hb2 k
  · exact c_actSub hB hA hD hne hx hy wx wy hb hb2 k
  · exact c_actMul hB hA hD hne hx hy wx wy hb hb2 k
  · exact c_actDiv hB hA hD hne hx hy wx wy hb hb2 k
  · exact c_actTurn hB hA hD hne hx hy wx wy hb hb2 k
end Run1
