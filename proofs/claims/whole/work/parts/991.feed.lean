/-! ===== the TAPE ===== -/
def bt (v : Int32) : Nat := v.toBitVec.toNat % 256
theorem bt_lt (v : Int32) : bt v < 256 := Nat.mod_lt _ (by decide)
theorem bt_and (v : Int32) : v &&& nI 255 = nI (bt v) := by
  apply Int32.toBitVec_inj.mp
  apply BitVec.eq_of_toNat_eq
  show (v.toBitVec &&& 255#32).toNat = (BitVec.ofNat 32 (bt v)).toNat
  rw [BitVec.toNat_and, BitVec.toNat_ofNat]
  show v.toBitVec.toNat &&& 2 ^ 8 - 1 = bt v % 2 ^ 32
  rw [Nat.and_two_pow_sub_one_eq_mod, Nat.mod_eq_of_lt (Nat.lt_trans (bt_lt v) (by decide))]
  rfl
theorem bt_i8 (v : Int32) : v.toInt8.toInt32 = sb (bt v) := by
  apply Int32.toInt_inj.mp
  rw [sb_toInt _ (bt_lt v), Int8.toInt_toInt32, Int32.toInt_toInt8]
  have e : v.toInt = if 2 * v.toBitVec.toNat < 2 ^ 32 then (v.toBitVec.toNat : Int) else (v.toBitVec.toNat : Int) - ((2 ^ 32 : Nat) : Int) := BitVec.toInt_eq_toNat_cond _
  have hb : bt v = v.toBitVec.toNat % 256 := rfl
  have hn : v.toBitVec.toNat < 2 ^ 32 := v.toBitVec.isLt
  rw [e, hb]
  generalize v.toBitVec.toNat = n at hn
  unfold Int.bmod
  dsimp only
  split <;> split <;> split <;> omega
theorem sb_sb : ∀ t, t < 256 → (sb t).toInt8.toInt32 = sb t := by decide +kernel
/-- the byte of v that lies s bits up -/
def bB (v : Int32) (s : Nat) : Nat := bt (v >>> (nI s &&& 31))
theorem bB_lt (v : Int32) (s : Nat) : bB v s < 256 := bt_lt _
def fB (a b c d e : Int32) (i : Nat) : Nat := bB (if i < 4 then a else if i < 8 then b else if i < 12 then c else if i < 16 then d else e) (24 - 8 * (i % 4))
section Feed
variable {g : xG} {l : Launch} {h : xH} {J : Nat → Nat → Int32} {Q : Option Value → xH → Prop} {x : Nat}
theorem c_putBytes {v : Int32} {ts : Nat} (hM : CM h x) (h2 : J x 2 = nI ts) (hts : ts + 4 ≤ 4000) (k : ∀ J', (∀ r, r ≠ x → r ≠ x + 1 → J' r = J r) → (∀ j, j ≠ 2 → J' x j = J x j) → J' x 2 = nI (ts + 4) → (∀ i, i < ts → J' (x + 1) i = J (x + 1) i) → (∀ i, i < 4 → J' (x + 1) (ts + i) = sb (bB v (24 - 8 * i))) → Q none (xJ h J')) : ac g l mX10_putBytes [.ref x, .int v] (xJ h J) Q := by
  refine ac_of (by decide) (Nat.le_of_ble_eq_true rfl) ?_
  have t1 := hM.1
  have p1 := hM.2.1.1
  have tt := hM.2.2
  suffices H : ∀ f m (J1 : Nat → Nat → Int32) (s : Int32) (lv0 : List (Nat × Value)), m + f = 4 → (s = if m = 4 then -8 else nI (24 - 8 * m)) → (∀ r, r ≠ x → r ≠ x + 1 → J1 r = J r) → (∀ j, j ≠ 2 → J1 x j = J x j) → J1 x 2 = nI (ts + m) → (∀ i, i < ts → J1 (x + 1) i = J (x + 1) i) → (∀ i, i < m → J1 (x + 1) (ts + i) = sb (bB v (24 - 8 * i))) → (∀ z ∈ ([(0, .ref x), (1, .int v), (2, .int s)] : List (Nat × Value)), z ∈ lv0) → aw g l mX10_putBytes 3 lv0 [] (xJ h J1) Q by
    refine nX10_putBytes_0 ?_
    refine sX10_putBytes_2 ?_
    exact H 4 0 J (nI 24) _ rfl rfl (fun _ _ _ => rfl) (fun _ _ => rfl) h2 (fun _ _ => rfl) (fun i hi => by omega) (fun z hz => by simp only [List.mem_cons, List.not_mem_nil, or_false] at hz; rcases hz with rfl | rfl | rfl <;> exact xlk_mem rfl)
  intro f
  induction f with
  | zero =>
    intro m J1 s lv0 hm hs o1 o2 e2 o3 o4 hlv
    refine aw_lv hlv ?_
    obtain rfl : m = 4 := by omega
    refine sX10_putBytes_3 rfl ?_
    refine sX10_putBytes_4 (fun _ => ?_) (fun z => absurd (by rw [hs]; decide) z)
    exact sX10_putBytes_46 (k J1 o1 o2 e2 o3 o4)
  | succ f ih =>
    intro m J1 s lv0 hm hs o1 o2 e2 o3 o4 hlv
    refine aw_lv hlv ?_
    rw [if_neg (by omega)] at hs
    subst hs
    refine sX10_putBytes_3 rfl ?_
    refine nX10_putBytes_4 (by omega) ?_
    refine sX10_putBytes_7 rfl ?_
    refine jX10_putBytes_8 (by assumption) ?_
    rw [e2]
    refine nX10_putBytes_11 ?_
    refine nX10_putBytes_14 (by omega) (by omega) (fun z => absurd z (by omega)) (fun _ => ?_)
    refine sX10_putBytes_17 rfl ?_
    refine jX10_putBytes_18 (by assumption) (by assumption) ?_
    refine sX10_putBytes_21 rfl ?_
    refine jX10_putBytes_22 (by assumption) ?_
    rw [e2]
    refine sX10_putBytes_25 rfl ?_
    refine sX10_putBytes_26 rfl ?_
    refine sX10_putBytes_27 ?_
    refine sX10_putBytes_28 ?_
    refine jX10_putBytes_29 (by assumption) (by omega) (by omega) ?_
    refine sX10_putBytes_30 rfl ?_
    refine sX10_putBytes_31 rfl ?_
    refine jX10_putBytes_32 (by assumption) ?_
    rw [xup2_r (by omega), e2]
    refine nX10_putBytes_35 ?_
    refine nX10_putBytes_36 ?_
    refine jX10_putBytes_37 (by assumption) ?_
    refine sX10_putBytes_40 rfl ?_
    refine sX10_putBytes_43 ?_
    refine ih (m + 1) _ _ _ (by omega) ?_ (fun r a1 a2 => by rw [xup2_r a1, xup2_r a2]; exact o1 r a1 a2) (fun j hj => by rw [xup2_n hj, xup2_r (by omega)]; exact o2 j hj) xup2_s (fun i hi => by rw [xup2_r (by omega), xup2_n (by omega)]; exact o3 i hi) (fun i hi => ?_) (fun z hz => by simp only [List.mem_cons, List.not_mem_nil, or_false] at hz; rcases hz with rfl | rfl | rfl <;> exact xlk_mem rfl)
    · have : m = 0 ∨ m = 1 ∨ m = 2 ∨ m = 3 := by omega
      rcases this with rfl | rfl | rfl | rfl <;> decide
    · rw [xup2_r (by omega)]
      rcases Nat.eq_or_lt_of_le (Nat.le_of_lt_succ hi) with e | e
      · rw [e, xup2_s, bt_i8 (v >>> _), sb_sb _ (bt_lt _)]; rfl
      · rw [xup2_n (by omega)]; exact o4 i e
theorem c_feed10 {a1 a2 a3 a4 a5 : Int32} {ts : Nat} (hM : CM h x) (h2 : J x 2 = nI ts) (hts : ts ≤ 4000) (k0 : 4000 < ts + 20 → Q (some (.int (-1))) (xJ h J)) (k1 : ts + 20 ≤ 4000 → ∀ J', (∀ r, r ≠ x → r ≠ x + 1 → J' r = J r) → (∀ j, j ≠ 2 → J' x j = J x j) → J' x 2 = nI (ts + 20) → (∀ i, i < ts → J' (x + 1) i = J (x + 1) i) → (∀ i, i < 20 → J' (x + 1) (ts + i) = sb (fB a1 a2 a3 a4 a5 i)) → Q (some (.int (nI (ts + 20)))) (xJ h J')) : ac g l mX10_feed [.ref x, .int a1, .int a2, .int a3, .int a4, .int a5] (xJ h J) Q := by
  refine ac_of (by decide) (Nat.le_of_ble_eq_true rfl) ?_
  have t1 := hM.1
  refine sX10_feed_0 rfl ?_
  refine jX10_feed_1 (by assumption) ?_
  rw [h2]
  refine nX10_feed_4 ?_
  refine nX10_feed_6 ?_
  refine nX10_feed_7 ?_
  refine nX10_feed_10 (by omega) (by omega) (fun z => ?_) (fun z => ?_)
  · refine sX10_feed_15 rfl ?_
    refine sX10_feed_16 rfl ?_
    refine jX10_feed_17 (Nat.le_of_ble_eq_true rfl) (by assumption) ?_
    refine c_putBytes (ts := ts) hM h2 (by omega) (fun J1 u1 v1 w1 x1 y1 => ?_)
    refine sX10_feed_20 rfl ?_
    refine sX10_feed_21 rfl ?_
    refine jX10_feed_22 (Nat.le_of_ble_eq_true rfl) (by assumption) ?_
    refine c_putBytes (ts := ts + 4) hM w1 (by omega) (fun J2 u2 v2 w2 x2 y2 => ?_)
    refine sX10_feed_25 rfl ?_
    refine sX10_feed_26 rfl ?_
    refine jX10_feed_27 (Nat.le_of_ble_eq_true rfl) (by assumption) ?_
    refine c_putBytes (ts := ts + 8) hM w2 (by omega) (fun J3 u3 v3 w3 x3 y3 => ?_)
    refine sX10_feed_30 rfl ?_
    refine sX10_feed_31 rfl ?_
    refine jX10_feed_33 (Nat.le_of_ble_eq_true rfl) (by assumption) ?_
    refine c_putBytes (ts := ts + 12) hM w3 (by omega) (fun J4 u4 v4 w4 x4 y4 => ?_)
    refine sX10_feed_36 rfl ?_
    refine sX10_feed_37 rfl ?_
    refine jX10_feed_39 (Nat.le_of_ble_eq_true rfl) (by assumption) ?_
    refine c_putBytes (ts := ts + 16) hM w4 (by omega) (fun J5 u5 v5 w5 x5 y5 => ?_)
    refine sX10_feed_42 rfl ?_
    refine jX10_feed_43 (by assumption) ?_
    rw [show J5 x 2 = nI (ts + 20) from w5]
    refine sX10_feed_46 (k1 z J5 (fun r a b => by rw [u5 r a b, u4 r a b, u3 r a b, u2 r a b, u1 r a b]) (fun j hj => by rw [v5 j hj, v4 j hj, v3 j hj, v2 j hj, v1 j hj]) w5 (fun i hi => by rw [x5 i (by omega), x4 i (by omega), x3 i (by omega), x2 i (by omega), x1 i hi]) (fun i hi => ?_))
    unfold fB
    by_cases z1 : i < 4
    · rw [if_pos z1, x5 _ (by omega), x4 _ (by omega), x3 _ (by omega), x2 _ (by omega), y1 i z1, Nat.mod_eq_of_lt z1]
    rw [if_neg z1]
    by_cases z2 : i < 8
    · rw [if_pos z2, x5 _ (by omega), x4 _ (by omega), x3 _ (by omega), show ts + i = ts + 4 + (i - 4) by omega, y2 (i - 4) (by omega), show i % 4 = i - 4 by omega]
    rw [if_neg z2]
    by_cases z3 : i < 12
    · rw [if_pos z3, x5 _ (by omega), x4 _ (by omega), show ts + i = ts + 8 + (i - 8) by omega, y3 (i - 8) (by omega), show i % 4 = i - 8 by omega]
    rw [if_neg z3]
    by_cases z4 : i < 16
    · rw [if_pos z4, x5 _ (by omega), show ts + i = ts + 12 + (i - 12) by omega, y4 (i - 12) (by omega), show i % 4 = i - 12 by omega]
    rw [if_neg z4, show ts + i = ts + 16 + (i - 16) by omega, y5 (i - 16) (by omega), show i % 4 = i - 16 by omega]
  · refine sX10_feed_13 ?_
    exact sX10_feed_14 (k0 z)
end Feed
section FeedR
variable {g : xG} {l : Launch} {h : xH} {b : Nat} {K : Nat → Nat → Int32} {Q : Option Value → xH → Prop}
theorem c_feed11 {a1 a2 a3 a4 a5 : Int32} {ts : Nat} (hS : RS h b) (h5 : K 0 5 = nI ts) (hts : ts ≤ 4000) (k0 : 4000 < ts + 20 → Q (some (.int (-1))) (xB h b K)) (k1 : ts + 20 ≤ 4000 → ∀ K', (∀ r, r ≠ 0 → r ≠ 4 → K' r = K r) → (∀ j, j ≠ 5 → K' 0 j = K 0 j) → K' 0 5 = nI (ts + 20) → (∀ i, i < ts → K' 4 i = K 4 i) → (∀ i, i < 20 → K' 4 (ts + i) = nI (fB a1 a2 a3 a4 a5 i)) → Q (some (.int (nI (ts + 20)))) (xB h b K')) : ac g l mX11_feed [.ref b, .int a1, .int a2, .int a3, .int a4, .int a5] (xB h b K) Q := by
  refine ac_of (by decide) (Nat.le_of_ble_eq_true rfl) ?_
  refine sX11_feed_0 rfl ?_
  refine tX11_feed_1 hS ?_
  rw [h5]
  refine nX11_feed_4 ?_
  refine nX11_feed_6 ?_
  refine nX11_feed_7 ?_
  refine nX11_feed_10 (by omega) (by omega) (fun z => ?_) (fun z => ?_)
  · refine nX11_feed_15 ?_
    refine sX11_feed_16 ?_
    suffices H : ∀ f m (K1 : Nat → Nat → Int32) (lv0 : List (Nat × Value)), m + f = 20 → (∀ r, r ≠ 0 → r ≠ 4 → K1 r = K r) → (∀ j, j ≠ 5 → K1 0 j = K 0 j) → K1 0 5 = nI (ts + m) → (∀ i, i < ts → K1 4 i = K 4 i) → (∀ i, i < m → K1 4 (ts + i) = nI (fB a1 a2 a3 a4 a5 i)) → (∀ z ∈ ([(0, .ref b), (1, .int a1), (2, .int a2), (3, .int a3), (4, .int a4), (5, .int a5), (6, .int (nI m))] : List (Nat × Value)), z ∈ lv0) → aw g l mX11_feed 18 lv0 [] (xB h b K1) Q from H 20 0 K _ rfl (fun _ _ _ => rfl) (fun _ _ => rfl) h5 (fun _ _ => rfl) (fun i hi => by omega) (fun z hz => by simp only [List.mem_cons, List.not_mem_nil, or_false] at hz; rcases hz with rfl | rfl | rfl | rfl | rfl | rfl | rfl <;> exact xlk_mem rfl)
    intro f
    induction f with
    | zero =>
      intro m K1 lv0 hm o1 o2 e5 o3 o4 hlv
      refine aw_lv hlv ?_
      obtain rfl : m = 20 := by omega
      refine sX11_feed_18 rfl ?_
      refine nX11_feed_20 ?_
      refine nX11_feed_22 (by omega) (by omega) (fun _ => ?_) (fun z => absurd z (by omega))
      refine sX11_feed_115 rfl ?_
      refine tX11_feed_116 hS ?_
      rw [e5]
      exact sX11_feed_119 (k1 z K1 o1 o2 e5 o3 o4)
    | succ f ih =>
      intro m K1 lv0 hm o1 o2 e5 o3 o4 hlv
      refine aw_lv hlv ?_
      have body : ∀ (v : Int32) (lv1 : List (Nat × Value)), (v = if m < 4 then a1 else if m < 8 then a2 else if m < 12 then a3 else if m < 16 then a4 else a5) → (∀ z ∈ ([(0, .ref b), (1, .int a1), (2, .int a2), (3, .int a3), (4, .int a4), (5, .int a5), (6, .int (nI m))] : List (Nat × Value)), z ∈ lv1) → aw g l mX11_feed 71 lv1 [.int v] (xB h b K1) Q := by
        intro v lv1 hv hlv1
        refine aw_lv hlv1 ?_
        refine sX11_feed_71 ?_
        refine sX11_feed_73 rfl ?_
        refine tX11_feed_74 hS ?_
        refine sX11_feed_77 rfl ?_
        refine tX11_feed_78 hS ?_
        rw [e5]
        refine sX11_feed_81 rfl ?_
        refine nX11_feed_83 ?_
        refine nX11_feed_85 ?_
        refine sX11_feed_87 rfl ?_
        refine nX11_feed_89 ?_
        refine nX11_feed_90 (by omega) (by omega) (by omega) ?_
        refine nX11_feed_91 ?_
        refine nX11_feed_92 (by omega) ?_
        refine sX11_feed_93 ?_
        refine nX11_feed_94 ?_
        refine sX11_feed_97 ?_
        rw [bt_and, show bt (v >>> (nI (24 - 8 * (m % 4)) &&& 31)) = fB a1 a2 a3 a4 a5 m by rw [hv]; rfl]
        refine tX11_feed_98 hS (by decide) (by decide) rfl (show ts + m < 4000 by omega) ?_
        refine sX11_feed_99 rfl ?_
        refine sX11_feed_100 rfl ?_
        refine tX11_feed_101 hS ?_
        rw [xup2_r (by decide), e5]
        refine nX11_feed_104 ?_
        refine nX11_feed_105 ?_
        refine tX11_feed_106 hS ?_
        refine nX11_feed_109 rfl ?_
        refine sX11_feed_112 ?_
        refine ih (m + 1) _ _ (by omega) (fun r c1 c2 => by rw [xup2_r c1, xup2_r c2]; exact o1 r c1 c2) (fun j hj => by rw [xup2_n hj, xup2_r (by decide)]; exact o2 j hj) xup2_s (fun i hi => by rw [xup2_r (by decide), xup2_n (by omega)]; exact o3 i hi) (fun i hi => ?_) (fun z hz => by simp only [List.mem_cons, List.not_mem_nil, or_false] at hz; rcases hz with rfl | rfl | rfl | rfl | rfl | rfl | rfl <;> exact xlk_mem rfl)
        rw [xup2_r (by decide)]
        rcases Nat.eq_or_lt_of_le (Nat.le_of_lt_succ hi) with e | e
        · rw [e, xup2_s]
        · rw [xup2_n (by omega)]; exact o4 i e
      refine sX11_feed_18 rfl ?_
      refine nX11_feed_20 ?_
      refine nX11_feed_22 (by omega) (by omega) (fun z => absurd z (by omega)) (fun _ => ?_)
      refine sX11_feed_25 rfl ?_
      refine nX11_feed_27 ?_
      refine nX11_feed_28 (by omega) (by omega) (fun z1 => ?_) (fun z1 => ?_)
      · refine sX11_feed_35 rfl ?_
        refine nX11_feed_37 ?_
        refine nX11_feed_39 (by omega) (by omega) (fun z2 => ?_) (fun z2 => ?_)
        · refine sX11_feed_46 rfl ?_
          refine nX11_feed_48 ?_
          refine nX11_feed_50 (by omega) (by omega) (fun z3 => ?_) (fun z3 => ?_)
          · refine sX11_feed_57 rfl ?_
            refine nX11_feed_59 ?_
            refine nX11_feed_61 (by omega) (by omega) (fun z4 => ?_) (fun z4 => ?_)
            · refine sX11_feed_69 rfl ?_
              exact body a5 _ (by rw [if_neg (by omega), if_neg (by omega), if_neg (by omega), if_neg (by omega)]) (fun z hz => by simp only [List.mem_cons, List.not_mem_nil, or_false] at hz; rcases hz with rfl | rfl | rfl | rfl | rfl | rfl | rfl <;> exact xlk_mem rfl)
            · refine sX11_feed_64 rfl ?_
              refine sX11_feed_66 ?_
              exact body a4 _ (by rw [if_neg (by omega), if_neg (by omega), if_neg (by omega), if_pos z4]) (fun z hz => by simp only [List.mem_cons, List.not_mem_nil, or_false] at hz; rcases hz with rfl | rfl | rfl | rfl | rfl | rfl | rfl <;> exact xlk_mem rfl)
          · refine sX11_feed_53 rfl ?_
            refine sX11_feed_54 ?_
            exact body a3 _ (by rw [if_neg (by omega), if_neg (by omega), if_pos z3]) (fun z hz => by simp only [List.mem_cons, List.not_mem_nil, or_false] at hz; rcases hz with rfl | rfl | rfl | rfl | rfl | rfl | rfl <;> exact xlk_mem rfl)
        · refine sX11_feed_42 rfl ?_
          refine sX11_feed_43 ?_
          exact body a2 _ (by rw [if_neg (by omega), if_pos z2]) (fun z hz => by simp only [List.mem_cons, List.not_mem_nil, or_false] at hz; rcases hz with rfl | rfl | rfl | rfl | rfl | rfl | rfl <;> exact xlk_mem rfl)
      · refine sX11_feed_31 rfl ?_
        refine sX11_feed_32 ?_
        exact body a1 _ (by rw [if_pos z1]) (fun z hz => by simp only [List.mem_cons, List.not_mem_nil, or_false] at hz; rcases hz with rfl | rfl | rfl | rfl | rfl | rfl | rfl <;> exact xlk_mem rfl)
  · refine sX11_feed_13 ?_
    exact sX11_feed_14 (k0 z)
end FeedR
