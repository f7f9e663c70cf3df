/-! ===== Book.add, and small methods of both sides ===== -/
theorem i32c (x : Int32) : x < 0 ∨ ∃ j, x = nI j ∧ j < 2 ^ 31 := by
  by_cases z : x < 0
  · exact Or.inl z
  · refine Or.inr ⟨x.toInt.toNat, ?_, ?_⟩
    · apply Int32.toInt_inj.mp
      have h0 : ¬ x.toInt < 0 := by rw [Int32.lt_iff_toInt_lt] at z; exact z
      have := Int32.toInt_lt x
      rw [nI_toInt (by omega)]
      omega
    · have := Int32.toInt_lt x
      omega
/-- the class's object at x -/
def CM (h : xH) (x : Nat) : Prop := (xT h x).1 = 10 ∧ (xP h x 1 = some (x + 1) ∧ xP h x 3 = some (x + 2) ∧ xP h x 4 = some (x + 15) ∧ xP h x 5 = some (x + 32) ∧ xP h x 6 = some (x + 20) ∧ xP h x 7 = some (x + 26)) ∧ xT h (x + 1) = (101, 4000)
section Small
variable {g : xG} {l : Launch} {h : xH} {J : Nat → Nat → Int32} {Q : Option Value → xH → Prop} {c w x : Nat}
theorem c_add1 {s a n te sz nbs e : Nat} (hW : CW h w) (h9 : J w 9 = nI c) (hc : c < 100) (h10 : J w 10 = nI nbs) (hsz : J (w + 2) 3 = nI sz) (hs : s < 100) (he : (c = 0 → e = 0) ∧ (0 < c → J (w + 11) (c - 1) = nI e)) (k : ∀ J', (∀ r, r < w ∨ w + 12 < r ∨ w < r ∧ r < w + 6 → J' r = J r) → (∀ r, w + 6 ≤ r → r ≤ w + 12 → ∀ i, i ≠ c → J' r i = J r i) → (∀ j, j ≠ 9 → j ≠ 10 → J' w j = J w j) → J' w 9 = nI (c + 1) → J' w 10 = nI (nbs + (if s = 0 then 1 else 0)) → J' (w + 6) c = nI s → J' (w + 7) c = nI a → J' (w + 8) c = nI n → J' (w + 9) c = nI nbs → J' (w + 10) c = nI e → J' (w + 11) c = nI sz → J' (w + 12) c = nI te → Q none (xJ h J')) : ac g l mX1_add [.ref w, .int (nI s), .int (nI a), .int (nI n), .int (nI te)] (xJ h J) Q := by
  refine ac_of (by decide) (Nat.le_of_ble_eq_true rfl) ?_
  have hW' := hW
  obtain ⟨t1, ⟨p0, p1, p2, p3, p4, p5, p6, p7, p8⟩, -, ⟨t6, t7, t8, t9, t10, t11, t12⟩, tc, -⟩ := hW
  refine sX1_add_0 rfl ?_
  refine jX1_add_1 (by assumption) ?_
  rw [h9]
  refine nX1_add_4 ?_
  refine nX1_add_6 (by omega) (by omega) (fun _ => ?_) (fun z => absurd z (by omega))
  refine sX1_add_10 rfl ?_
  refine jX1_add_11 (Nat.le_of_ble_eq_true rfl) (by assumption) ?_
  refine c_codeEnd hW' h9 (by omega) he ?_
  refine sX1_add_14 ?_
  refine sX1_add_16 rfl ?_
  refine jX1_add_17 (by assumption) (by assumption) ?_
  refine sX1_add_20 rfl ?_
  refine jX1_add_21 (by assumption) ?_
  rw [h9]
  refine sX1_add_24 rfl ?_
  refine jX1_add_25 (by assumption) (by omega) (by omega) ?_
  refine sX1_add_26 rfl ?_
  refine jX1_add_27 (by assumption) (by assumption) ?_
  refine sX1_add_30 rfl ?_
  refine jX1_add_31 (by assumption) ?_
  rw [xup2_r (by omega), h9]
  refine sX1_add_34 rfl ?_
  refine jX1_add_35 (by assumption) (by omega) (by omega) ?_
  refine sX1_add_36 rfl ?_
  refine jX1_add_37 (by assumption) (by assumption) ?_
  refine sX1_add_40 rfl ?_
  refine jX1_add_41 (by assumption) ?_
  rw [xup2_r (by omega), xup2_r (by omega), h9]
  refine sX1_add_44 rfl ?_
  refine jX1_add_45 (by assumption) (by omega) (by omega) ?_
  refine sX1_add_46 rfl ?_
  refine jX1_add_47 (by assumption) (by assumption) ?_
  refine sX1_add_50 rfl ?_
  refine jX1_add_51 (by assumption) ?_
  rw [xup2_r (by omega), xup2_r (by omega), xup2_r (by omega), h9]
  refine sX1_add_54 rfl ?_
  refine jX1_add_55 (by assumption) ?_
  rw [xup2_r (by omega), xup2_r (by omega), xup2_r (by omega), h10]
  refine jX1_add_58 (by assumption) (by omega) (by omega) ?_
  refine sX1_add_59 rfl ?_
  refine jX1_add_60 (by assumption) (by assumption) ?_
  refine sX1_add_63 rfl ?_
  refine jX1_add_64 (by assumption) ?_
  rw [xup2_r (by omega), xup2_r (by omega), xup2_r (by omega), xup2_r (by omega), h9]
  refine sX1_add_67 rfl ?_
  refine jX1_add_69 (by assumption) (by omega) (by omega) ?_
  refine sX1_add_70 rfl ?_
  refine jX1_add_71 (by assumption) (by assumption) ?_
  refine sX1_add_74 rfl ?_
  refine jX1_add_75 (by assumption) ?_
  rw [xup2_r (by omega), xup2_r (by omega), xup2_r (by omega), xup2_r (by omega), xup2_r (by omega), h9]
  refine sX1_add_78 rfl ?_
  refine jX1_add_79 (by assumption) (by assumption) ?_
  refine jX1_add_82 (by assumption) ?_
  rw [xup2_r (by omega), xup2_r (by omega), xup2_r (by omega), xup2_r (by omega), xup2_r (by omega), hsz]
  refine jX1_add_85 (by assumption) (by omega) (by omega) ?_
  refine sX1_add_86 rfl ?_
  refine jX1_add_87 (by assumption) (by assumption) ?_
  refine sX1_add_90 rfl ?_
  refine jX1_add_91 (by assumption) ?_
  rw [xup2_r (by omega), xup2_r (by omega), xup2_r (by omega), xup2_r (by omega), xup2_r (by omega), xup2_r (by omega), h9]
  refine sX1_add_94 rfl ?_
  refine jX1_add_96 (by assumption) (by omega) (by omega) ?_
  refine sX1_add_97 rfl ?_
  refine sX1_add_98 rfl ?_
  refine jX1_add_99 (by assumption) ?_
  generalize hJ1 : xup2 (xup2 (xup2 (xup2 (xup2 (xup2 (xup2 J (w + 6) c (nI s)) (w + 7) c (nI a)) (w + 8) c (nI n)) (w + 9) c (nI nbs)) (w + 10) c (nI e)) (w + 11) c (nI sz)) (w + 12) c (nI te) = J1
  have o1 : ∀ r, r < w + 6 ∨ w + 12 < r → J1 r = J r := fun r hr => by
    rw [← hJ1, xup2_r (by omega), xup2_r (by omega), xup2_r (by omega), xup2_r (by omega), xup2_r (by omega), xup2_r (by omega), xup2_r (by omega)]
  have up1 : ∀ (K : Nat → Nat → Int32) (r i r' j : Nat) (v : Int32), j ≠ i → xup2 K r i v r' j = K r' j := fun K r i r' j v hj => by
    unfold xup2; rw [if_neg hj]; split <;> rfl
  have o2 : ∀ r i, i ≠ c → J1 r i = J r i := fun r i hi => by
    rw [← hJ1, up1 _ _ _ _ _ _ hi, up1 _ _ _ _ _ _ hi, up1 _ _ _ _ _ _ hi, up1 _ _ _ _ _ _ hi, up1 _ _ _ _ _ _ hi, up1 _ _ _ _ _ _ hi, up1 _ _ _ _ _ _ hi]
  have q6 : J1 (w + 6) c = nI s := by rw [← hJ1, xup2_r (by omega), xup2_r (by omega), xup2_r (by omega), xup2_r (by omega), xup2_r (by omega), xup2_r (by omega), xup2_s]
  have q7 : J1 (w + 7) c = nI a := by rw [← hJ1, xup2_r (by omega), xup2_r (by omega), xup2_r (by omega), xup2_r (by omega), xup2_r (by omega), xup2_s]
  have q8 : J1 (w + 8) c = nI n := by rw [← hJ1, xup2_r (by omega), xup2_r (by omega), xup2_r (by omega), xup2_r (by omega), xup2_s]
  have q9 : J1 (w + 9) c = nI nbs := by rw [← hJ1, xup2_r (by omega), xup2_r (by omega), xup2_r (by omega), xup2_s]
  have q10 : J1 (w + 10) c = nI e := by rw [← hJ1, xup2_r (by omega), xup2_r (by omega), xup2_s]
  have q11 : J1 (w + 11) c = nI sz := by rw [← hJ1, xup2_r (by omega), xup2_s]
  have q12 : J1 (w + 12) c = nI te := by rw [← hJ1, xup2_s]
  rw [o1 w (by omega), h10]
  have last : ∀ (d : Nat) (lv1 : List (Nat × Value)), d = (if s = 0 then 1 else 0) → (∀ z ∈ ([(0, .ref w)] : List (Nat × Value)), z ∈ lv1) → aw g l mX1_add 111 lv1 [.int (nI d), .int (nI nbs), .ref w] (xJ h J1) Q := by
    intro d lv1 hd hlv1
    refine aw_lv hlv1 ?_
    refine nX1_add_111 ?_
    refine jX1_add_112 (by assumption) ?_
    refine sX1_add_115 rfl ?_
    refine sX1_add_116 rfl ?_
    refine jX1_add_117 (by assumption) ?_
    rw [xup2_n (by decide), o1 w (by omega), h9]
    refine nX1_add_120 ?_
    refine nX1_add_121 ?_
    refine jX1_add_122 (by assumption) ?_
    refine sX1_add_125 (k _ (fun r hr => by rw [xup2_r (by omega), xup2_r (by omega)]; exact o1 r (by omega)) (fun r a1 a2 i hi => by rw [xup2_r (by omega), xup2_r (by omega)]; exact o2 r i hi) (fun j a1 a2 => by rw [xup2_n a1, xup2_n a2, o1 w (by omega)]) xup2_s (by rw [xup2_n (by decide), xup2_s, hd]) ?_ ?_ ?_ ?_ ?_ ?_ ?_)
    · rw [xup2_r (by omega), xup2_r (by omega)]; exact q6
    · rw [xup2_r (by omega), xup2_r (by omega)]; exact q7
    · rw [xup2_r (by omega), xup2_r (by omega)]; exact q8
    · rw [xup2_r (by omega), xup2_r (by omega)]; exact q9
    · rw [xup2_r (by omega), xup2_r (by omega)]; exact q10
    · rw [xup2_r (by omega), xup2_r (by omega)]; exact q11
    · rw [xup2_r (by omega), xup2_r (by omega)]; exact q12
  refine sX1_add_102 rfl ?_
  refine nX1_add_103 (by omega) (fun z => ?_) (fun z => ?_)
  · refine nX1_add_110 ?_
    exact last 0 _ (by rw [if_neg z]) (fun z hz => by simp only [List.mem_cons, List.not_mem_nil, or_false] at hz; rcases hz with rfl <;> exact xlk_mem rfl)
  · refine nX1_add_106 ?_
    refine sX1_add_107 ?_
    exact last 1 _ (by rw [if_pos z]) (fun z hz => by simp only [List.mem_cons, List.not_mem_nil, or_false] at hz; rcases hz with rfl <;> exact xlk_mem rfl)
theorem c_cut10 {n : Int32} {ts : Nat} (hM : CM h x) (h2 : J x 2 = nI ts) (hts : ts ≤ 4000) (k0 : (n < 0 ∨ ∃ j, n = nI j ∧ ts < j ∧ j < 2 ^ 31) → Q (some (.int (-1))) (xJ h J)) (k1 : ∀ j, n = nI j → j ≤ ts → Q (some (.int (nI (ts - j)))) (xJ h (xup2 J x 2 (nI j)))) : ac g l mX10_cut [.ref x, .int n] (xJ h J) Q := by
  refine ac_of (by decide) (Nat.le_of_ble_eq_true rfl) ?_
  have t1 := hM.1
  refine sX10_cut_0 rfl ?_
  rcases i32c n with z | ⟨j, rfl, hj⟩
  · refine sX10_cut_1 (fun _ => ?_) (fun y => absurd z y)
    refine sX10_cut_12 ?_
    exact sX10_cut_13 (k0 (Or.inl z))
  · refine nX10_cut_1 hj ?_
    refine sX10_cut_4 rfl ?_
    refine sX10_cut_5 rfl ?_
    refine jX10_cut_6 (by assumption) ?_
    rw [h2]
    refine nX10_cut_9 hj (by omega) (fun z => ?_) (fun z => ?_)
    · refine sX10_cut_14 rfl ?_
      refine jX10_cut_15 (by assumption) ?_
      rw [h2]
      refine sX10_cut_18 rfl ?_
      refine nX10_cut_19 (by omega) ?_
      refine sX10_cut_20 ?_
      refine sX10_cut_21 rfl ?_
      refine sX10_cut_22 rfl ?_
      refine jX10_cut_23 (by assumption) ?_
      refine sX10_cut_26 rfl ?_
      exact sX10_cut_27 (k1 j rfl z)
    · refine sX10_cut_12 ?_
      exact sX10_cut_13 (k0 (Or.inr ⟨j, rfl, z, hj⟩))
theorem c_fault10 (hM : CM h x) (k : Q (some (.int (J x 8))) (xJ h J)) : ac g l mX10_fault [.ref x] (xJ h J) Q := by
  refine ac_of (by decide) (Nat.le_of_ble_eq_true rfl) ?_
  have t1 := hM.1
  refine sX10_fault_0 rfl ?_
  refine jX10_fault_1 (by assumption) ?_
  exact sX10_fault_4 k
theorem c_sign10 (hM : CM h x) (hV : CV h (x + 26)) (k : Q (some (.int (J (x + 26) 0))) (xJ h J)) : ac g l mX10_sign [.ref x] (xJ h J) Q := by
  refine ac_of (by decide) (Nat.le_of_ble_eq_true rfl) ?_
  have t1 := hM.1
  have p7 := hM.2.1.2.2.2.2.2
  have t9 := hV.1
  refine sX10_sign_0 rfl ?_
  refine jX10_sign_1 (by assumption) (by assumption) ?_
  refine jX10_sign_4 (by assumption) ?_
  exact sX10_sign_7 k
end Small
section SmallR
variable {g : xG} {l : Launch} {h : xH} {b : Nat} {K : Nat → Nat → Int32} {N : Nat → Nat} {S : Nat → Vl} {Q : Option Value → xH → Prop}
theorem c_cut11 {n : Int32} {ts : Nat} (hS : RS h b) (h5 : K 0 5 = nI ts) (hts : ts ≤ 4000) (k0 : (n < 0 ∨ ∃ j, n = nI j ∧ ts < j ∧ j < 2 ^ 31) → Q (some (.int (-1))) (xB h b K)) (k1 : ∀ j, n = nI j → j ≤ ts → Q (some (.int (nI (ts - j)))) (xB h b (xup2 K 0 5 (nI j)))) : ac g l mX11_cut [.ref b, .int n] (xB h b K) Q := by
  refine ac_of (by decide) (Nat.le_of_ble_eq_true rfl) ?_
  refine sX11_cut_0 rfl ?_
  rcases i32c n with z | ⟨j, rfl, hj⟩
  · refine sX11_cut_1 (fun _ => ?_) (fun y => absurd z y)
    refine sX11_cut_12 ?_
    exact sX11_cut_13 (k0 (Or.inl z))
  · refine nX11_cut_1 hj ?_
    refine sX11_cut_4 rfl ?_
    refine sX11_cut_5 rfl ?_
    refine tX11_cut_6 hS ?_
    rw [h5]
    refine nX11_cut_9 hj (by omega) (fun z => ?_) (fun z => ?_)
    · refine sX11_cut_14 rfl ?_
      refine tX11_cut_15 hS ?_
      rw [h5]
      refine sX11_cut_18 rfl ?_
      refine nX11_cut_19 (by omega) ?_
      refine sX11_cut_20 ?_
      refine sX11_cut_21 rfl ?_
      refine sX11_cut_22 rfl ?_
      refine tX11_cut_23 hS ?_
      refine sX11_cut_26 rfl ?_
      exact sX11_cut_27 (k1 j rfl z)
    · refine sX11_cut_12 ?_
      exact sX11_cut_13 (k0 (Or.inr ⟨j, rfl, z, hj⟩))
theorem c_fault11 (hS : RS h b) (k : Q (some (.int (K 0 18))) (xB h b K)) : ac g l mX11_fault [.ref b] (xB h b K) Q := by
  refine ac_of (by decide) (Nat.le_of_ble_eq_true rfl) ?_
  refine sX11_fault_0 rfl ?_
  refine tX11_fault_1 hS ?_
  exact sX11_fault_4 k
theorem c_sign11 (hS : RS h b) (k : Q (some (.int (K 2 67))) (xB h b K)) : ac g l mX11_sign [.ref b] (xB h b K) Q := by
  refine ac_of (by decide) (Nat.le_of_ble_eq_true rfl) ?_
  refine sX11_sign_0 rfl ?_
  refine tX11_sign_1 hS ?_
  refine nX11_sign_4 ?_
  refine tX11_sign_6 hS (by decide) (by decide) rfl (show 67 < 170 by decide) ?_
  exact sX11_sign_7 k
end SmallR
