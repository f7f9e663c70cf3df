/-! ===== the class's Parser: w + 13, its Tokens w + 14, its rows w + 16 and w + 17 ===== -/
def CQ (h : xH) (w : Nat) : Prop := CW h w ∧ (xT h (w + 13)).1 = 6 ∧ (xP h (w + 13) 0 = some (w + 14) ∧ xP h (w + 13) 1 = some (w + 16) ∧ xP h (w + 13) 2 = some (w + 17)) ∧ xT h (w + 16) = (100, 88) ∧ xT h (w + 17) = (100, 88) ∧ CK h (w + 14) (w + 1)
def hs (J : Nat → Nat → Int32) (w : Nat) : List (Nat × Nat) → Prop
  | [] => True
  | e :: H => (J (w + 16) H.length = nI e.1 ∧ (e.1 ≠ 10 → J (w + 17) H.length = nI e.2)) ∧ hs J w H
theorem hs_c {J J' : Nat → Nat → Int32} {w : Nat} : ∀ {H : List (Nat × Nat)}, (∀ j, j < H.length → J' (w + 16) j = J (w + 16) j ∧ J' (w + 17) j = J (w + 17) j) → hs J w H → hs J' w H
  | [], _, _ => trivial
  | e :: H, h, ⟨⟨h1, h2⟩, h3⟩ => by
    have hl := h H.length (Nat.lt_succ_self _)
    exact ⟨⟨by rw [hl.1]; exact h1, fun z => by rw [hl.2]; exact h2 z⟩, hs_c (fun j hj => h j (Nat.lt_succ_of_lt hj)) h3⟩
def en (J : Nat → Nat → Int32) (w i : Nat) (s : St) : Prop := J (w + 3) i = nI s.1 ∧ J (w + 4) i = nI s.2.1 ∧ J (w + 5) i = s.2.2
def sg (J : Nat → Nat → Int32) (w : Nat) : Nat → List St → Prop
  | _, [] => True
  | i, s :: L => en J w i s ∧ sg J w (i + 1) L
def fC (w i : Nat) (J J' : Nat → Nat → Int32) : Prop := (∀ r, r ≠ w + 2 → r ≠ w + 3 → r ≠ w + 4 → r ≠ w + 5 → r ≠ w + 13 → r ≠ w + 14 → r ≠ w + 16 → r ≠ w + 17 → J' r = J r) ∧ ∀ j, j < i → J' (w + 3) j = J (w + 3) j ∧ J' (w + 4) j = J (w + 4) j ∧ J' (w + 5) j = J (w + 5) j
theorem fC_r (w i : Nat) (J : Nat → Nat → Int32) : fC w i J J := ⟨fun _ _ _ _ _ _ _ _ _ => rfl, fun _ _ => ⟨rfl, rfl, rfl⟩⟩
theorem fC_t {w i i1 : Nat} {J J1 J2 : Nat → Nat → Int32} (h : fC w i J J1) (h' : fC w i1 J1 J2) (hi : i ≤ i1) : fC w i J J2 := by
  refine ⟨fun r a b c d e f g k => (h'.1 r a b c d e f g k).trans (h.1 r a b c d e f g k), fun j hj => ?_⟩
  obtain ⟨a1, a2, a3⟩ := h.2 j hj
  obtain ⟨b1, b2, b3⟩ := h'.2 j (by omega)
  exact ⟨b1.trans a1, b2.trans a2, b3.trans a3⟩
theorem en_c {J J' : Nat → Nat → Int32} {w i k : Nat} {s : St} (hf : fC w k J J') (hi : i < k) (h : en J w i s) : en J' w i s := by
  obtain ⟨a1, a2, a3⟩ := hf.2 i hi
  exact ⟨a1.trans h.1, a2.trans h.2.1, a3.trans h.2.2⟩
theorem sg_c {J J' : Nat → Nat → Int32} {w k : Nat} (hf : fC w k J J') : ∀ {L : List St} {i : Nat}, i + L.length ≤ k → sg J w i L → sg J' w i L
  | [], _, _, _ => trivial
  | s :: L, i, hk, ⟨h1, h2⟩ => by
    have hk' : i + (L.length + 1) ≤ k := hk
    exact ⟨en_c hf (by omega) h1, sg_c hf (by omega) h2⟩
theorem sg_app {J : Nat → Nat → Int32} {w : Nat} : ∀ {A B : List St} {i : Nat}, sg J w i A → sg J w (i + A.length) B → sg J w i (A ++ B)
  | [], _, _, _, h => h
  | s :: A, B, i, ⟨h1, h2⟩, h => by
    refine ⟨h1, sg_app h2 ?_⟩
    have : i + (A.length + 1) = i + 1 + A.length := by omega
    rw [← this]
    exact h
def PT (J : Nat → Nat → Int32) (w : Nat) (C : Nat → Nat) (m a i : Nat) (H : List (Nat × Nat)) (dp : Nat) : Prop := TJ J (w + 14) (w + 1) C m ∧ TS J (w + 14) C m a ∧ J (w + 2) 3 = nI i ∧ (J (w + 13) 3 = nI H.length ∧ hs J w H) ∧ J (w + 13) 4 = nI dp
def rkO (s : Nat) : Nat := if s = 11 ∨ s = 12 then 1 else if s = 13 then 2 else if s = 14 ∨ s = 15 then 3 else if s = 16 then 4 else 0
def eo (e : Nat × Nat) : St := (if e.1 = 16 then 14 else e.1, e.2, 0)
def jt (K : Nat) : Int32 := if K = 43 then 11 else if K = 45 then 12 else if K = 42 then 14 else if K = 47 then 15 else if K = 2 ∨ K = 3 ∨ K = 40 then 16 else -1
theorem wJoint : ∀ K, K < 128 → wX6_jointFor_1 (nI K) = if K = 43 then 68 else if K = 45 then 71 else if K = 42 then 74 else if K = 47 then 77 else if K = 2 ∨ K = 3 ∨ K = 40 then 80 else 83 := by decide +kernel
theorem wRank : ∀ s, s < 128 → wX6_rankOf_1 (nI s) = if s = 11 ∨ s = 12 then 40 else if s = 13 then 42 else if s = 14 ∨ s = 15 then 44 else if s = 16 then 46 else 48 := by decide +kernel
theorem rkO_lt (s : Nat) : rkO s < 5 := by unfold rkO; split; omega; split; omega; split; omega; split <;> omega
section CParse
variable {g : xG} {l : Launch} {h : xH} {J : Nat → Nat → Int32} {Q : Option Value → xH → Prop} {w m a i dp : Nat} {C : Nat → Nat} {H : List (Nat × Nat)}
theorem c_jointFor {K : Nat} (hK : K < 128) {h1 : xH} (k : Q (some (.int (jt K))) h1) : ac g l mX6_jointFor [.int (nI K)] h1 Q := by
  refine ac_of (by decide) (Nat.le_of_ble_eq_true rfl) ?_
  refine sX6_jointFor_0 rfl ?_
  refine sX6_jointFor_1 ?_
  rw [wJoint K hK]
  unfold jt at k
  by_cases z1 : K = 43
  · rw [if_pos z1] at k ⊢
    refine sX6_jointFor_68 ?_
    exact sX6_jointFor_70 k
  rw [if_neg z1] at k ⊢
  by_cases z2 : K = 45
  · rw [if_pos z2] at k ⊢
    refine sX6_jointFor_71 ?_
    exact sX6_jointFor_73 k
  rw [if_neg z2] at k ⊢
  by_cases z3 : K = 42
  · rw [if_pos z3] at k ⊢
    refine sX6_jointFor_74 ?_
    exact sX6_jointFor_76 k
  rw [if_neg z3] at k ⊢
  by_cases z4 : K = 47
  · rw [if_pos z4] at k ⊢
    refine sX6_jointFor_77 ?_
    exact sX6_jointFor_79 k
  rw [if_neg z4] at k ⊢
  by_cases z5 : K = 2 ∨ K = 3 ∨ K = 40
  · rw [if_pos z5] at k ⊢
    refine sX6_jointFor_80 ?_
    exact sX6_jointFor_82 k
  rw [if_neg z5] at k ⊢
  refine sX6_jointFor_83 ?_
  exact sX6_jointFor_84 k
theorem c_rankOf {s : Nat} (hK : s < 128) {h1 : xH} (k : Q (some (.int (nI (rkO s)))) h1) : ac g l mX6_rankOf [.int (nI s)] h1 Q := by
  refine ac_of (by decide) (Nat.le_of_ble_eq_true rfl) ?_
  refine sX6_rankOf_0 rfl ?_
  refine sX6_rankOf_1 ?_
  rw [wRank s hK]
  unfold rkO at k
  by_cases z1 : s = 11 ∨ s = 12
  · rw [if_pos z1] at k ⊢
    refine nX6_rankOf_40 ?_
    exact sX6_rankOf_41 k
  rw [if_neg z1] at k ⊢
  by_cases z2 : s = 13
  · rw [if_pos z2] at k ⊢
    refine nX6_rankOf_42 ?_
    exact sX6_rankOf_43 k
  rw [if_neg z2] at k ⊢
  by_cases z3 : s = 14 ∨ s = 15
  · rw [if_pos z3] at k ⊢
    refine nX6_rankOf_44 ?_
    exact sX6_rankOf_45 k
  rw [if_neg z3] at k ⊢
  by_cases z4 : s = 16
  · rw [if_pos z4] at k ⊢
    refine nX6_rankOf_46 ?_
    exact sX6_rankOf_47 k
  rw [if_neg z4] at k ⊢
  refine nX6_rankOf_48 ?_
  exact sX6_rankOf_49 k
theorem c_add2 {s p : Nat} {dt : Int32} (hW : CW h w) (hi : i < 13668) (hp : PT J w C m a i H dp) (k : ∀ J', (∀ r, r ≠ w + 2 → r ≠ w + 3 → r ≠ w + 4 → r ≠ w + 5 → J' r = J r) → fC w i J J' → en J' w i (s, p, dt) → PT J' w C m a (i + 1) H dp → Q none (xJ h J')) : ac g l mX2_add [.ref (w + 2), .int (nI s), .int (nI p), .int dt] (xJ h J) Q := by
  refine ac_of (by decide) (Nat.le_of_ble_eq_true rfl) ?_
  obtain ⟨-, -, -, -, c1, ⟨c2, c3, c4⟩, t3, t4, t5⟩ := hW
  obtain ⟨p1, p2, p3, p4, p5⟩ := hp
  refine sX2_add_0 rfl ?_
  refine jX2_add_1 (by assumption) ?_
  rw [p3]
  refine nX2_add_4 ?_
  refine nX2_add_7 (by omega) (by omega) (fun z => absurd z (by omega)) (fun _ => ?_)
  refine sX2_add_10 rfl ?_
  refine jX2_add_11 (by assumption) (by assumption) ?_
  refine sX2_add_14 rfl ?_
  refine jX2_add_15 (by assumption) ?_
  rw [p3]
  refine sX2_add_18 rfl ?_
  refine jX2_add_19 (by assumption) (by omega) (by omega) ?_
  refine sX2_add_20 rfl ?_
  refine jX2_add_21 (by assumption) (by assumption) ?_
  refine sX2_add_24 rfl ?_
  refine jX2_add_25 (by assumption) ?_
  rw [xup2_r (by omega), p3]
  refine sX2_add_28 rfl ?_
  refine jX2_add_29 (by assumption) (by omega) (by omega) ?_
  refine sX2_add_30 rfl ?_
  refine jX2_add_31 (by assumption) (by assumption) ?_
  refine sX2_add_34 rfl ?_
  refine jX2_add_35 (by assumption) ?_
  rw [xup2_r (by omega), xup2_r (by omega), p3]
  refine sX2_add_38 rfl ?_
  refine jX2_add_39 (by assumption) (by omega) (by omega) ?_
  refine sX2_add_40 rfl ?_
  refine sX2_add_41 rfl ?_
  refine jX2_add_42 (by assumption) ?_
  rw [xup2_r (by omega), xup2_r (by omega), xup2_r (by omega), p3]
  refine nX2_add_45 ?_
  refine nX2_add_46 ?_
  refine jX2_add_47 (by assumption) ?_
  have fr : ∀ r, r ≠ w + 2 → r ≠ w + 3 → r ≠ w + 4 → r ≠ w + 5 → xup2 (xup2 (xup2 (xup2 J (w + 3) i (nI s)) (w + 4) i (nI p)) (w + 5) i dt) (w + 2) 3 (nI (i + 1)) r = J r := fun r a1 a2 a3 a4 => by rw [xup2_r a1, xup2_r a4, xup2_r a3, xup2_r a2]
  refine sX2_add_50 (k _ fr ⟨fun r a1 a2 a3 a4 _ _ _ _ => fr r a1 a2 a3 a4, fun j hj => ⟨?_, ?_, ?_⟩⟩ ⟨?_, ?_, ?_⟩ ⟨TJ_c (fr _ (by omega) (by omega) (by omega) (by omega)) (by rw [fr _ (by omega) (by omega) (by omega) (by omega)]) p1, ?_, by rw [xup2_s], ⟨by rw [fr _ (by omega) (by omega) (by omega) (by omega)]; exact p4.1, hs_c (fun j hj => ?_) p4.2⟩, by rw [fr _ (by omega) (by omega) (by omega) (by omega)]; exact p5⟩)
  · rw [xup2_r (by omega), xup2_r (by omega), xup2_r (by omega), xup2_n (by omega)]
  · rw [xup2_r (by omega), xup2_r (by omega), xup2_n (by omega), xup2_r (by omega)]
  · rw [xup2_r (by omega), xup2_n (by omega), xup2_r (by omega), xup2_r (by omega)]
  · rw [xup2_r (by omega), xup2_r (by omega), xup2_r (by omega), xup2_s]
  · rw [xup2_r (by omega), xup2_r (by omega), xup2_s]
  · rw [xup2_r (by omega), xup2_s]
  · unfold TS at p2 ⊢; rw [fr _ (by omega) (by omega) (by omega) (by omega)]; exact p2
  · rw [fr _ (by omega) (by omega) (by omega) (by omega), fr _ (by omega) (by omega) (by omega) (by omega)]; exact ⟨rfl, rfl⟩
theorem c_nx6 (hQ : CQ h w) (ha : a ≤ m) (hp : PT J w C m a i H dp) (k : ∀ J', (∀ r, r ≠ w + 14 → J' r = J r) → fC w i J J' → PT J' w C m (nx C m a) i H dp → Q none (xJ h J')) : ac g l mX8_next [.ref (w + 14)] (xJ h J) Q := by
  obtain ⟨p1, p2, p3, p4, p5⟩ := hp
  refine c_next hQ.2.2.2.2.2 p1 (tkT_le p1.2.2.1 ha) p2.2.2.1 (fun J' o hT hS => k J' o ⟨fun r _ _ _ _ _ a6 _ _ => o r a6, fun j _ => ⟨?_, ?_, ?_⟩⟩ ⟨hT, hS, ?_, ⟨?_, hs_c (fun j hj => ?_) p4.2⟩, ?_⟩)
  · rw [o _ (by omega)]
  · rw [o _ (by omega)]
  · rw [o _ (by omega)]
  · rw [o _ (by omega)]; exact p3
  · rw [o _ (by omega)]; exact p4.1
  · rw [o _ (by omega), o _ (by omega)]; exact ⟨rfl, rfl⟩
  · rw [o _ (by omega)]; exact p5
theorem c_hold {s : Nat} (hQ : CQ h w) (hl : H.length < 88) (hp : PT J w C m a i H dp) (k : ∀ J', (∀ r, r ≠ w + 13 → r ≠ w + 16 → r ≠ w + 17 → J' r = J r) → fC w i J J' → PT J' w C m a i ((s, a) :: H) dp → Q none (xJ h J')) : ac g l mX6_hold [.ref (w + 13), .int (nI s)] (xJ h J) Q := by
  refine ac_of (by decide) (Nat.le_of_ble_eq_true rfl) ?_
  obtain ⟨-, t13, ⟨q0, q1, q2⟩, t16, t17, ⟨t14, -⟩⟩ := hQ
  obtain ⟨p1, p2, p3, ⟨p4, p6⟩, p5⟩ := hp
  refine sX6_hold_0 rfl ?_
  refine jX6_hold_1 (by assumption) ?_
  rw [p4]
  refine nX6_hold_4 ?_
  refine nX6_hold_6 (by omega) (by omega) (fun z => absurd z (by omega)) (fun _ => ?_)
  refine sX6_hold_9 rfl ?_
  refine jX6_hold_10 (by assumption) (by assumption) ?_
  refine sX6_hold_13 rfl ?_
  refine jX6_hold_14 (by assumption) ?_
  rw [p4]
  refine sX6_hold_17 rfl ?_
  refine jX6_hold_18 (by assumption) (by omega) (by omega) ?_
  refine sX6_hold_19 rfl ?_
  refine jX6_hold_20 (by assumption) (by assumption) ?_
  refine sX6_hold_23 rfl ?_
  refine jX6_hold_24 (by assumption) ?_
  rw [xup2_r (by omega), p4]
  refine sX6_hold_27 rfl ?_
  refine jX6_hold_28 (by assumption) (by assumption) ?_
  refine jX6_hold_31 (by assumption) ?_
  rw [xup2_r (by omega), p2.1]
  refine jX6_hold_34 (by assumption) (by omega) (by omega) ?_
  refine sX6_hold_35 rfl ?_
  refine sX6_hold_36 rfl ?_
  refine jX6_hold_37 (by assumption) ?_
  rw [xup2_r (by omega), xup2_r (by omega), p4]
  refine nX6_hold_40 ?_
  refine nX6_hold_41 ?_
  refine jX6_hold_42 (by assumption) ?_
  have fr : ∀ r, r ≠ w + 13 → r ≠ w + 16 → r ≠ w + 17 → xup2 (xup2 (xup2 J (w + 16) H.length (nI s)) (w + 17) H.length (nI a)) (w + 13) 3 (nI (H.length + 1)) r = J r := fun r a1 a2 a3 => by rw [xup2_r a1, xup2_r a3, xup2_r a2]
  refine sX6_hold_45 (k _ fr ⟨fun r _ _ _ _ a5 _ a7 a8 => fr r a5 a7 a8, fun j hj => ⟨?_, ?_, ?_⟩⟩ ⟨TJ_c (fr _ (by omega) (by omega) (by omega)) (by rw [fr _ (by omega) (by omega) (by omega)]) p1, ?_, ?_, ⟨by rw [xup2_s]; rfl, ⟨?_, fun _ => ?_⟩, hs_c (fun j hj => ⟨?_, ?_⟩) p6⟩, ?_⟩)
  · rw [fr _ (by omega) (by omega) (by omega)]
  · rw [fr _ (by omega) (by omega) (by omega)]
  · rw [fr _ (by omega) (by omega) (by omega)]
  · unfold TS at p2 ⊢; rw [fr _ (by omega) (by omega) (by omega)]; exact p2
  · rw [fr _ (by omega) (by omega) (by omega)]; exact p3
  · rw [xup2_r (by omega), xup2_r (by omega), xup2_s]
  · rw [xup2_r (by omega), xup2_s]
  · rw [xup2_r (by omega), xup2_r (by omega), xup2_n (by omega)]
  · rw [xup2_r (by omega), xup2_n (by omega), xup2_r (by omega)]
  · rw [xup2_n (by decide), xup2_r (by omega), xup2_r (by omega)]; exact p5
theorem c_release {A B : List (Nat × Nat)} {rr : Nat} (hQ : CQ h w) (hr5 : rr < 5) (hA : ∀ e ∈ A, rr ≤ rkO e.1 ∧ 10 < e.1 ∧ e.1 ≤ 16) (hB : B = [] ∨ ∃ e B', B = e :: B' ∧ rkO e.1 < rr ∧ e.1 ≤ 16) (hl : (A ++ B).length ≤ 88) (hi : i + A.length ≤ 13668) (hp : PT J w C m a i (A ++ B) dp) (k : ∀ J', fC w i J J' → sg J' w i (A.map eo) → PT J' w C m a (i + A.length) B dp → Q none (xJ h J')) : ac g l mX6_release [.ref (w + 13), .int (nI rr), .ref (w + 2)] (xJ h J) Q := by
  refine ac_of (by decide) (Nat.le_of_ble_eq_true rfl) ?_
  have hQ' := hQ
  obtain ⟨hW, t13, ⟨q0, q1, q2⟩, t16, t17, ⟨t14, -⟩⟩ := hQ
  have tc := hW.2.2.2.2.1
  suffices H : ∀ (A : List (Nat × Nat)) (i : Nat) (J : Nat → Nat → Int32) (lv0 : List (Nat × Value)), (∀ e ∈ A, rr ≤ rkO e.1 ∧ 10 < e.1 ∧ e.1 ≤ 16) → (A ++ B).length ≤ 88 → i + A.length ≤ 13668 → PT J w C m a i (A ++ B) dp → (∀ J', fC w i J J' → sg J' w i (A.map eo) → PT J' w C m a (i + A.length) B dp → Q none (xJ h J')) → (∀ z ∈ ([(0, .ref (w + 13)), (1, .int (nI rr)), (2, .ref (w + 2))] : List (Nat × Value)), z ∈ lv0) → aw g l mX6_release 0 lv0 [] (xJ h J) Q from H A i J _ hA hl hi hp k (fun z hz => by simp only [List.mem_cons, List.not_mem_nil, or_false] at hz; rcases hz with rfl | rfl | rfl <;> exact xlk_mem rfl)
  clear hA hl hi hp k
  intro A
  induction A with
  | nil =>
    intro i J lv0 hA hl hi hp k hlv
    refine aw_lv hlv ?_
    obtain ⟨p1, p2, p3, ⟨p4, p6⟩, p5⟩ := hp
    have p4' : J (w + 13) 3 = nI B.length := p4
    have hl' : B.length ≤ 88 := hl
    have fin : ∀ lv1 : List (Nat × Value), aw g l mX6_release 74 lv1 [] (xJ h J) Q := fun lv1 => sX6_release_74 (k J (fC_r _ _ _) trivial ⟨p1, p2, p3, ⟨p4, p6⟩, p5⟩)
    refine sX6_release_0 rfl ?_
    refine jX6_release_1 (by assumption) ?_
    rw [p4']
    rcases hB with rfl | ⟨e, B', rfl, hb, hb2⟩
    · refine nX6_release_4 (by decide) (fun _ => fin _) (fun z => absurd z (by decide))
    · have hl2 : B'.length + 1 ≤ 88 := hl'
      refine nX6_release_4 (show B'.length + 1 < 2 ^ 31 by omega) (fun z => absurd z (Nat.succ_ne_zero _)) (fun _ => ?_)
      refine sX6_release_7 rfl ?_
      refine jX6_release_8 (by assumption) (by assumption) ?_
      refine sX6_release_11 rfl ?_
      refine jX6_release_12 (by assumption) ?_
      rw [p4']
      refine nX6_release_15 ?_
      refine nX6_release_16 (show 1 ≤ B'.length + 1 by omega) ?_
      refine jX6_release_17 (by assumption) (by omega) (by omega) ?_
      rw [show J (w + 16) ((e :: B').length - 1) = nI e.1 from p6.1.1]
      refine sX6_release_18 (Nat.le_of_ble_eq_true rfl) ?_
      refine c_rankOf (by omega) ?_
      have := rkO_lt e.1
      refine sX6_release_21 rfl ?_
      refine nX6_release_22 (by omega) (by omega) (fun _ => fin _) (fun z => absurd z (by omega))
  | cons e A ih =>
    intro i J lv0 hA hl hi hp k hlv
    refine aw_lv hlv ?_
    have hp0 := hp
    obtain ⟨p1, p2, p3, ⟨p4, p6⟩, p5⟩ := hp
    have hl' : (A ++ B).length + 1 ≤ 88 := hl
    have hi' : i + (A.length + 1) ≤ 13668 := hi
    obtain ⟨e1, e2, e3⟩ := hA e List.mem_cons_self
    have p4' : J (w + 13) 3 = nI ((A ++ B).length + 1) := p4
    have p61 : J (w + 16) (A ++ B).length = nI e.1 := p6.1.1
    have p62 : J (w + 17) (A ++ B).length = nI e.2 := p6.1.2 (by omega)
    have p63 : hs J w (A ++ B) := p6.2
    generalize hn : (A ++ B).length = n at *
    have last : ∀ (s : Nat) (lv1 : List (Nat × Value)), s = (if e.1 = 16 then 14 else e.1) → (∀ z ∈ ([(0, .ref (w + 13)), (1, .int (nI rr)), (2, .ref (w + 2))] : List (Nat × Value)), z ∈ lv1) → aw g l mX6_release 58 lv1 [.int (nI s), .ref (w + 2)] (xJ h (xup2 J (w + 13) 3 (nI n))) Q := by
      intro s lv1 hs' hlv1
      refine aw_lv hlv1 ?_
      have fr : ∀ r, r ≠ w + 13 → xup2 J (w + 13) 3 (nI n) r = J r := fun r hr => xup2_r hr
      have hp1 : PT (xup2 J (w + 13) 3 (nI n)) w C m a i (A ++ B) dp := ⟨TJ_c (fr _ (by omega)) (by rw [fr _ (by omega)]) p1, by unfold TS at p2 ⊢; rw [fr _ (by omega)]; exact p2, by rw [fr _ (by omega)]; exact p3, ⟨by rw [xup2_s, hn], hs_c (fun j hj => ⟨by rw [fr _ (by omega)], by rw [fr _ (by omega)]⟩) p63⟩, by rw [xup2_n (by decide)]; exact p5⟩
      refine sX6_release_58 rfl ?_
      refine jX6_release_59 (by assumption) (by assumption) ?_
      refine sX6_release_62 rfl ?_
      refine jX6_release_63 (by assumption) ?_
      rw [xup2_s]
      refine jX6_release_66 (by assumption) (by omega) (by omega) ?_
      rw [fr _ (by omega), p62]
      refine nX6_release_67 ?_
      refine jX6_release_68 (Nat.le_of_ble_eq_true rfl) (by assumption) ?_
      refine c_add2 (s := s) (p := e.2) (dt := nI 0) hW (by omega) hp1 (fun J' f1 f2 f3 f4 => ?_)
      refine sX6_release_71 ?_
      have f0 : fC w i J J' := fC_t (i1 := i) ⟨fun r _ _ _ _ a5 _ _ _ => fr r a5, fun j _ => ⟨by rw [fr _ (by omega)], by rw [fr _ (by omega)], by rw [fr _ (by omega)]⟩⟩ f2 (Nat.le_refl _)
      refine ih (i + 1) J' _ (fun e' he' => hA e' (List.mem_cons_of_mem _ he')) (by omega) (by omega) f4 (fun J2 k1 k2 k3 => k J2 (fC_t f0 k1 (by omega)) ⟨?_, k2⟩ ?_) (fun z hz => by simp only [List.mem_cons, List.not_mem_nil, or_false] at hz; rcases hz with rfl | rfl | rfl <;> exact xlk_mem rfl)
      · have := en_c k1 (Nat.lt_succ_self i) f3
        rw [hs'] at this
        exact this
      · rw [show i + 1 + A.length = i + (e :: A).length by show _ = i + (A.length + 1); omega] at k3
        exact k3
    refine sX6_release_0 rfl ?_
    refine jX6_release_1 (by assumption) ?_
    rw [p4']
    refine nX6_release_4 (by omega) (fun z => absurd z (by omega)) (fun _ => ?_)
    refine sX6_release_7 rfl ?_
    refine jX6_release_8 (by assumption) (by assumption) ?_
    refine sX6_release_11 rfl ?_
    refine jX6_release_12 (by assumption) ?_
    rw [p4']
    refine nX6_release_15 ?_
    refine nX6_release_16 (by omega) ?_
    rw [show n + 1 - 1 = n by omega]
    refine jX6_release_17 (by assumption) (by omega) (by omega) ?_
    rw [p61]
    refine sX6_release_18 (Nat.le_of_ble_eq_true rfl) ?_
    refine c_rankOf (by omega) ?_
    have := rkO_lt e.1
    refine sX6_release_21 rfl ?_
    refine nX6_release_22 (by omega) (by omega) (fun z => absurd z (by omega)) (fun _ => ?_)
    refine sX6_release_25 rfl ?_
    refine sX6_release_26 rfl ?_
    refine jX6_release_27 (by assumption) ?_
    rw [p4']
    refine nX6_release_30 ?_
    refine nX6_release_31 (by omega) ?_
    rw [show n + 1 - 1 = n by omega]
    refine jX6_release_32 (by assumption) ?_
    refine sX6_release_35 rfl ?_
    refine jX6_release_36 (by assumption) (by assumption) ?_
    refine sX6_release_39 rfl ?_
    refine jX6_release_40 (by assumption) ?_
    rw [xup2_s]
    refine jX6_release_43 (by assumption) (by omega) (by omega) ?_
    rw [xup2_r (by omega), p61]
    refine sX6_release_44 ?_
    refine sX6_release_45 rfl ?_
    refine sX6_release_46 rfl ?_
    refine nX6_release_47 ?_
    refine nX6_release_49 (by omega) (by omega) (fun z => ?_) (fun z => ?_)
    · refine sX6_release_57 rfl ?_
      exact last _ _ (by rw [if_neg z]) (fun z hz => by simp only [List.mem_cons, List.not_mem_nil, or_false] at hz; rcases hz with rfl | rfl | rfl <;> exact xlk_mem rfl)
    · refine nX6_release_52 ?_
      refine sX6_release_54 ?_
      exact last 14 _ (by rw [if_pos z]) (fun z hz => by simp only [List.mem_cons, List.not_mem_nil, or_false] at hz; rcases hz with rfl | rfl | rfl <;> exact xlk_mem rfl)
end CParse
