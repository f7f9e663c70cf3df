section RefEnd2
variable {g : xG} {l : Launch} {h : xH} {b : Nat} {K : Nat → Nat → Int32} {N : Nat → Nat} {S : Nat → Vl} {Q : Option Value → xH → Prop}
theorem RX_up {r i : Nat} {v : Int32} (h1 : r ≠ 1) (h2 : r ≠ 2) (h3 : r ≠ 3) (h : RX K N S) : RX (xup2 K r i v) N S := RX_row (xup2_r (by omega)) (xup2_r (by omega)) (xup2_r (by omega)) h
theorem c_endRow {q B o : Nat} {t : Bool} (hS : RS h b) (hX : RX K N S) (hb : K 0 32 = nI q) (hq : q < 21) (h27 : K 0 27 = 1) (h29 : K 0 29 = nI 0) (hB : K 0 0 = nI B) (hB2 : B ≤ 512) (ht : K 16 q = if t = true then 1 else 0) (ho : t = true → o = 14 ∧ K 21 q = nI 42 ∨ o = 15 ∧ K 21 q = nI 47) (wr : vWf (S (3 * q + 2))) (wt : t = true → vWf (S (3 * q + 1))) (k0 : ∀ K' N' v, (t = true → (bin B o (S (3 * q + 1)) (S (3 * q + 2))).1 = 0 ∧ v = (bin B o (S (3 * q + 1)) (S (3 * q + 2))).2) → (t = false → v = S (3 * q + 2)) → (∀ j, j ≠ 1 → j ≠ 2 → j ≠ 3 → j ≠ 16 → j ≠ 17 → K' j = K j) → (∀ j, j ≠ q → K' 16 j = K 16 j ∧ K' 17 j = K 17 j) → K' 16 q = 1 → K' 17 q = 0 → RX K' N' (va_up S (3 * q + 1) v) → Q none (xB h b K')) (k1 : ∀ K' N' v, t = true → (bin B o (S (3 * q + 1)) (S (3 * q + 2))).1 ≠ 0 → (∀ j, j ≠ 0 → j ≠ 1 → j ≠ 2 → j ≠ 3 → j ≠ 16 → j ≠ 17 → K' j = K j) → (∀ j, j ≠ 29 → j ≠ 30 → K' 0 j = K 0 j) → K' 0 29 = nI (bin B o (S (3 * q + 1)) (S (3 * q + 2))).1 → K' 0 30 = K 22 q → RX K' N' (va_up S (3 * q + 1) v) → Q none (xB h b K')) : ac g l mX11_endRow [.ref b] (xB h b K) Q := by
  refine ac_of (by decide) (Nat.le_of_ble_eq_true rfl) ?_
  refine sX11_endRow_0 rfl ?_
  refine tX11_endRow_1 hS ?_
  rw [hb]
  refine sX11_endRow_4 ?_
  refine sX11_endRow_5 rfl ?_
  refine tX11_endRow_6 hS ?_
  rw [h27]
  refine sX11_endRow_9 (fun z => absurd z (by decide)) (fun _ => ?_)
  refine sX11_endRow_12 rfl ?_
  refine tX11_endRow_13 hS ?_
  rw [h29]
  refine nX11_endRow_16 (by decide) (fun _ => ?_) (fun z => absurd rfl z)
  refine sX11_endRow_20 rfl ?_
  refine tX11_endRow_21 hS ?_
  refine sX11_endRow_24 rfl ?_
  refine tX11_endRow_25 hS (by decide) (by decide) rfl (by simp only [rl]; omega) ?_
  rw [ht]
  cases t with
  | true =>
    rw [if_pos rfl]
    refine sX11_endRow_26 (fun z => absurd z (by decide)) (fun _ => ?_)
    have tail : ∀ (K1 : Nat → Nat → Int32) (N1 : Nat → Nat) (lv0 : List (Nat × Value)), xo3 K K1 → vPost (bin B o (S (3 * q + 1)) (S (3 * q + 2))) K1 N1 S (3 * q + 1) → (∀ z ∈ ([(0, .ref b), (1, .int (nI q))] : List (Nat × Value)), z ∈ lv0) → aw g l mX11_endRow 60 lv0 [.int (nI (bin B o (S (3 * q + 1)) (S (3 * q + 2))).1), .ref b] (xB h b K1) Q := by
      intro K1 N1 lv0 o1 p1 hlv
      refine aw_lv hlv ?_
      have o0 : K1 0 = K 0 := o1 0 (by decide) (by decide) (by decide)
      refine sX11_endRow_60 rfl ?_
      refine tX11_endRow_61 hS ?_
      refine sX11_endRow_64 rfl ?_
      refine tX11_endRow_65 hS (by decide) (by decide) rfl (by simp only [rl]; omega) ?_
      rw [o1 22 (by decide) (by decide) (by decide)]
      refine tX11_endRow_66 hS (Nat.le_of_ble_eq_true rfl) ?_
      refine c_fails hS (by have := cd_bin (B := B) (op := o) (x := S (3 * q + 1)) (y := S (3 * q + 2)); omega) (by rw [o0]; exact h29) (fun z => ?_) (fun z => ?_)
      · refine sX11_endRow_69 rfl ?_
        refine sX11_endRow_70 ?_
        refine sX11_endRow_87 rfl ?_
        refine tX11_endRow_88 hS ?_
        refine sX11_endRow_91 rfl ?_
        refine sX11_endRow_92 ?_
        refine tX11_endRow_93 hS (by decide) (by decide) rfl (show q < 21 from hq) (Or.inr rfl) ?_
        refine sX11_endRow_94 rfl ?_
        refine tX11_endRow_95 hS ?_
        refine sX11_endRow_98 rfl ?_
        refine sX11_endRow_99 ?_
        refine tX11_endRow_100 hS (by decide) (by decide) rfl (show q < 21 from hq) (Or.inl rfl) ?_
        refine sX11_endRow_101 (k0 _ N1 _ (fun _ => ⟨z, rfl⟩) (fun y => by cases y) (fun j a1 a2 a3 a4 a5 => by rw [xup2_r a5, xup2_r a4]; exact o1 j a1 a2 a3) (fun j hj => ⟨?_, ?_⟩) ?_ xup2_s ?_)
        · rw [xup2_r (by decide), xup2_n hj, o1 16 (by decide) (by decide) (by decide)]
        · rw [xup2_n hj, xup2_r (by decide), o1 17 (by decide) (by decide) (by decide)]
        · rw [xup2_r (by decide), xup2_s]
        · exact RX_up (by decide) (by decide) (by decide) (RX_up (by decide) (by decide) (by decide) (p1.2 z))
      · obtain ⟨x', px⟩ := p1.1
        refine sX11_endRow_69 rfl ?_
        refine sX11_endRow_70 ?_
        refine sX11_endRow_87 rfl ?_
        refine tX11_endRow_88 hS ?_
        refine sX11_endRow_91 rfl ?_
        refine sX11_endRow_92 ?_
        refine tX11_endRow_93 hS (by decide) (by decide) rfl (show q < 21 from hq) (Or.inr rfl) ?_
        refine sX11_endRow_94 rfl ?_
        refine tX11_endRow_95 hS ?_
        refine sX11_endRow_98 rfl ?_
        refine sX11_endRow_99 ?_
        refine tX11_endRow_100 hS (by decide) (by decide) rfl (show q < 21 from hq) (Or.inl rfl) ?_
        refine sX11_endRow_101 (k1 _ N1 x' rfl z (fun j a0 a1 a2 a3 a4 a5 => by rw [xup2_r a5, xup2_r a4, xup2_r a0, xup2_r a0]; exact o1 j a1 a2 a3) (fun j a1 a2 => by rw [xup2_r (by decide), xup2_r (by decide), xup2_n a2, xup2_n a1, o0]) (by rw [xup2_r (by decide), xup2_r (by decide), xup2_n (by decide), xup2_s]) (by rw [xup2_r (by decide), xup2_r (by decide), xup2_s]) ?_)
        exact RX_up (by decide) (by decide) (by decide) (RX_up (by decide) (by decide) (by decide) (RX_row0 (RX_row0 px)))
    refine sX11_endRow_29 rfl ?_
    refine sX11_endRow_30 rfl ?_
    refine nX11_endRow_31 ?_
    refine sX11_endRow_32 rfl ?_
    refine nX11_endRow_33 ?_
    refine nX11_endRow_34 ?_
    refine nX11_endRow_35 ?_
    refine nX11_endRow_36 ?_
    refine sX11_endRow_37 rfl ?_
    refine nX11_endRow_38 ?_
    refine nX11_endRow_39 ?_
    refine nX11_endRow_40 ?_
    refine sX11_endRow_41 rfl ?_
    refine tX11_endRow_42 hS ?_
    refine sX11_endRow_45 rfl ?_
    refine tX11_endRow_46 hS (by decide) (by decide) rfl (by simp only [rl]; omega) ?_
    rcases ho rfl with ⟨rfl, h21⟩ | ⟨rfl, h21⟩
    · rw [h21]
      refine nX11_endRow_47 ?_
      refine nX11_endRow_49 (by decide) (by decide) (fun _ => ?_) (fun z => absurd z (by decide))
      refine sX11_endRow_56 ?_
      refine tX11_endRow_57 hS (Nat.le_of_ble_eq_true rfl) ?_
      exact c_product hS hX (by omega) (by omega) (by omega) hB hB2 (wt rfl) wr (fun K1 N1 o1 p1 => tail K1 N1 _ o1 p1 (fun z hz => by simp only [List.mem_cons, List.not_mem_nil, or_false] at hz; rcases hz with rfl | rfl <;> exact xlk_mem rfl))
    · rw [h21]
      refine nX11_endRow_47 ?_
      refine nX11_endRow_49 (by decide) (by decide) (fun z => absurd rfl z) (fun _ => ?_)
      refine sX11_endRow_52 ?_
      refine sX11_endRow_53 ?_
      refine tX11_endRow_57 hS (Nat.le_of_ble_eq_true rfl) ?_
      exact c_productD hS hX (by omega) (by omega) (by omega) hB hB2 (wt rfl) wr (fun K1 N1 o1 p1 => tail K1 N1 _ o1 p1 (fun z hz => by simp only [List.mem_cons, List.not_mem_nil, or_false] at hz; rcases hz with rfl | rfl <;> exact xlk_mem rfl))
  | false =>
    rw [if_neg (by decide)]
    refine sX11_endRow_26 (fun _ => ?_) (fun z => absurd rfl z)
    refine sX11_endRow_73 rfl ?_
    refine nX11_endRow_74 ?_
    refine sX11_endRow_75 rfl ?_
    refine nX11_endRow_76 ?_
    refine nX11_endRow_77 ?_
    refine nX11_endRow_78 ?_
    refine nX11_endRow_79 ?_
    refine sX11_endRow_80 rfl ?_
    refine nX11_endRow_81 ?_
    refine nX11_endRow_82 ?_
    refine nX11_endRow_83 ?_
    refine tX11_endRow_84 hS (Nat.le_of_ble_eq_true rfl) ?_
    refine c_take hS hX (by omega) (by omega) (by omega) (fun K1 N1 o1 p1 => ?_)
    refine sX11_endRow_87 rfl ?_
    refine tX11_endRow_88 hS ?_
    refine sX11_endRow_91 rfl ?_
    refine sX11_endRow_92 ?_
    refine tX11_endRow_93 hS (by decide) (by decide) rfl (show q < 21 from hq) (Or.inr rfl) ?_
    refine sX11_endRow_94 rfl ?_
    refine tX11_endRow_95 hS ?_
    refine sX11_endRow_98 rfl ?_
    refine sX11_endRow_99 ?_
    refine tX11_endRow_100 hS (by decide) (by decide) rfl (show q < 21 from hq) (Or.inl rfl) ?_
    refine sX11_endRow_101 (k0 _ N1 _ (fun y => by cases y) (fun _ => rfl) (fun j a1 a2 a3 a4 a5 => by rw [xup2_r a5, xup2_r a4]; exact o1 j a1 a2 a3) (fun j hj => ⟨?_, ?_⟩) ?_ xup2_s ?_)
    · rw [xup2_r (by decide), xup2_n hj, o1 16 (by decide) (by decide) (by decide)]
    · rw [xup2_n hj, xup2_r (by decide), o1 17 (by decide) (by decide) (by decide)]
    · rw [xup2_r (by decide), xup2_s]
    · exact RX_up (by decide) (by decide) (by decide) (RX_up (by decide) (by decide) (by decide) p1)
theorem c_endTerm {q B s : Nat} (hS : RS h b) (hX : RX K N S) (hb : K 0 32 = nI q) (hq : q < 21) (h27 : K 0 27 = 1) (h29 : K 0 29 = nI 0) (hB : K 0 0 = nI B) (hB2 : B ≤ 512) (hs : s = 0 ∧ K 15 q = 0 ∧ K 18 q = 0 ∨ s = 13 ∧ K 15 q = 0 ∧ K 18 q = 1 ∨ s = 11 ∧ K 15 q = 1 ∧ K 18 q = 0 ∧ K 19 q = nI 43 ∨ s = 12 ∧ K 15 q = 1 ∧ K 18 q = 0 ∧ K 19 q = nI 45) (wt : vWf (S (3 * q + 1))) (ws : s = 11 ∨ s = 12 → vWf (S (3 * q))) (k0 : ∀ K' N' v u, (s = 0 → v = S (3 * q + 1)) → (s = 13 → v = vS (S (3 * q + 1)) (-(S (3 * q + 1)).1)) → (s = 11 ∨ s = 12 → (bin B s (S (3 * q)) (S (3 * q + 1))).1 = 0 ∧ v = (bin B s (S (3 * q)) (S (3 * q + 1))).2) → (∀ j, j ≠ 1 → j ≠ 2 → j ≠ 3 → j ≠ 15 → j ≠ 16 → j ≠ 18 → K' j = K j) → (∀ j, j ≠ q → K' 15 j = K 15 j ∧ K' 16 j = K 16 j ∧ K' 18 j = K 18 j) → K' 15 q = 1 → K' 16 q = 0 → K' 18 q = 0 → RX K' N' (va_up (va_up S (3 * q + 1) u) (3 * q) v) → Q none (xB h b K')) (k1 : ∀ K' N' v, s = 11 ∨ s = 12 → (bin B s (S (3 * q)) (S (3 * q + 1))).1 ≠ 0 → (∀ j, j ≠ 0 → j ≠ 1 → j ≠ 2 → j ≠ 3 → j ≠ 15 → j ≠ 16 → j ≠ 18 → K' j = K j) → (∀ j, j ≠ 29 → j ≠ 30 → K' 0 j = K 0 j) → K' 0 29 = nI (bin B s (S (3 * q)) (S (3 * q + 1))).1 → K' 0 30 = K 20 q → RX K' N' (va_up S (3 * q) v) → Q none (xB h b K')) : ac g l mX11_endTerm [.ref b] (xB h b K) Q := by
  refine ac_of (by decide) (Nat.le_of_ble_eq_true rfl) ?_
  -- no terms ahead of this one
  have fst : ∀ (K1 : Nat → Nat → Int32) (u : Vl) (lv0 : List (Nat × Value)), (s = 0 → u = S (3 * q + 1)) → (s = 13 → u = vS (S (3 * q + 1)) (-(S (3 * q + 1)).1)) → s = 0 ∨ s = 13 → K 15 q = 0 → (∀ j, j ≠ 2 → K1 j = K j) → RX K1 N (va_up S (3 * q + 1) u) → (∀ z ∈ ([(0, .ref b), (1, .int (nI q))] : List (Nat × Value)), z ∈ lv0) → aw g l mX11_endTerm 50 lv0 [] (xB h b K1) Q := by
    intro K1 u lv0 h0 h13 hor h15 o1 x1 hlv
    refine aw_lv hlv ?_
    refine sX11_endTerm_50 rfl ?_
    refine tX11_endTerm_51 hS ?_
    refine sX11_endTerm_54 rfl ?_
    refine sX11_endTerm_55 ?_
    refine tX11_endTerm_56 hS (by decide) (by decide) rfl (show q < 21 from hq) (Or.inl rfl) ?_
    refine sX11_endTerm_57 rfl ?_
    refine tX11_endTerm_58 hS ?_
    refine sX11_endTerm_61 rfl ?_
    refine tX11_endTerm_62 hS (by decide) (by decide) rfl (by simp only [rl]; omega) ?_
    rw [xup2_r (by decide), o1 15 (by decide), h15]
    refine sX11_endTerm_63 (fun _ => ?_) (fun z => absurd rfl z)
    refine sX11_endTerm_108 rfl ?_
    refine nX11_endTerm_109 ?_
    refine sX11_endTerm_110 rfl ?_
    refine nX11_endTerm_111 ?_
    refine nX11_endTerm_112 ?_
    refine sX11_endTerm_113 rfl ?_
    refine nX11_endTerm_114 ?_
    refine nX11_endTerm_115 ?_
    refine nX11_endTerm_116 ?_
    refine tX11_endTerm_117 hS (Nat.le_of_ble_eq_true rfl) ?_
    refine c_take (N := N) (S := va_up S (3 * q + 1) u) hS (RX_up (by decide) (by decide) (by decide) x1) (by omega) (by omega) (by omega) (fun K2 N2 o2 p2 => ?_)
    rw [vup_s] at p2
    refine sX11_endTerm_120 rfl ?_
    refine tX11_endTerm_121 hS ?_
    refine sX11_endTerm_124 rfl ?_
    refine sX11_endTerm_125 ?_
    refine tX11_endTerm_126 hS (by decide) (by decide) rfl (show q < 21 from hq) (Or.inr rfl) ?_
    refine sX11_endTerm_127 rfl ?_
    refine tX11_endTerm_128 hS ?_
    refine sX11_endTerm_131 rfl ?_
    refine sX11_endTerm_132 ?_
    refine tX11_endTerm_133 hS (by decide) (by decide) rfl (show q < 21 from hq) (Or.inl rfl) ?_
    refine sX11_endTerm_134 (k0 _ N2 u u h0 h13 (fun y => by omega) (fun j a1 a2 a3 a4 a5 a6 => by rw [xup2_r a5, xup2_r a4, o2 j a1 a2 a3, xup2_r a6]; exact o1 j a2) (fun j hj => ⟨?_, ?_, ?_⟩) ?_ xup2_s ?_ ?_)
    · rw [xup2_r (by decide), xup2_n hj, o2 15 (by decide) (by decide) (by decide), xup2_r (by decide), o1 15 (by decide)]
    · rw [xup2_n hj, xup2_r (by decide), o2 16 (by decide) (by decide) (by decide), xup2_r (by decide), o1 16 (by decide)]
    · rw [xup2_r (by decide), xup2_r (by decide), o2 18 (by decide) (by decide) (by decide), xup2_n hj, o1 18 (by decide)]
    · rw [xup2_r (by decide), xup2_s]
    · rw [xup2_r (by decide), xup2_r (by decide), o2 18 (by decide) (by decide) (by decide), xup2_s]
    · exact RX_up (by decide) (by decide) (by decide) (RX_up (by decide) (by decide) (by decide) p2)
  -- behind sum
  have tail : ∀ (K1 : Nat → Nat → Int32) (N1 : Nat → Nat) (lv0 : List (Nat × Value)), s = 11 ∨ s = 12 → xo3 (xup2 K 18 q 0) K1 → vPost (bin B s (S (3 * q)) (S (3 * q + 1))) K1 N1 S (3 * q) → (∀ z ∈ ([(0, .ref b), (1, .int (nI q))] : List (Nat × Value)), z ∈ lv0) → aw g l mX11_endTerm 95 lv0 [.int (nI (bin B s (S (3 * q)) (S (3 * q + 1))).1), .ref b] (xB h b K1) Q := by
    intro K1 N1 lv0 hor o1 p1 hlv
    refine aw_lv hlv ?_
    have o0 : K1 0 = K 0 := by rw [o1 0 (by decide) (by decide) (by decide), xup2_r (by decide)]
    refine sX11_endTerm_95 rfl ?_
    refine tX11_endTerm_96 hS ?_
    refine sX11_endTerm_99 rfl ?_
    refine tX11_endTerm_100 hS (by decide) (by decide) rfl (by simp only [rl]; omega) ?_
    rw [o1 20 (by decide) (by decide) (by decide), xup2_r (by decide)]
    refine tX11_endTerm_101 hS (Nat.le_of_ble_eq_true rfl) ?_
    refine c_fails hS (by have := cd_bin (B := B) (op := s) (x := S (3 * q)) (y := S (3 * q + 1)); omega) (by rw [o0]; exact h29) (fun z => ?_) (fun z => ?_)
    · refine sX11_endTerm_104 rfl ?_
      refine sX11_endTerm_105 ?_
      refine sX11_endTerm_120 rfl ?_
      refine tX11_endTerm_121 hS ?_
      refine sX11_endTerm_124 rfl ?_
      refine sX11_endTerm_125 ?_
      refine tX11_endTerm_126 hS (by decide) (by decide) rfl (show q < 21 from hq) (Or.inr rfl) ?_
      refine sX11_endTerm_127 rfl ?_
      refine tX11_endTerm_128 hS ?_
      refine sX11_endTerm_131 rfl ?_
      refine sX11_endTerm_132 ?_
      refine tX11_endTerm_133 hS (by decide) (by decide) rfl (show q < 21 from hq) (Or.inl rfl) ?_
      refine sX11_endTerm_134 (k0 _ N1 _ (S (3 * q + 1)) (fun y => by omega) (fun y => by omega) (fun _ => ⟨z, rfl⟩) (fun j a1 a2 a3 a4 a5 a6 => by rw [xup2_r a5, xup2_r a4, o1 j a1 a2 a3, xup2_r a6]) (fun j hj => ⟨?_, ?_, ?_⟩) ?_ xup2_s ?_ ?_)
      · rw [xup2_r (by decide), xup2_n hj, o1 15 (by decide) (by decide) (by decide), xup2_r (by decide)]
      · rw [xup2_n hj, xup2_r (by decide), o1 16 (by decide) (by decide) (by decide), xup2_r (by decide)]
      · rw [xup2_r (by decide), xup2_r (by decide), o1 18 (by decide) (by decide) (by decide), xup2_n hj]
      · rw [xup2_r (by decide), xup2_s]
      · rw [xup2_r (by decide), xup2_r (by decide), o1 18 (by decide) (by decide) (by decide), xup2_s]
      · rw [vup_id]; exact RX_up (by decide) (by decide) (by decide) (RX_up (by decide) (by decide) (by decide) (p1.2 z))
    · obtain ⟨x', px⟩ := p1.1
      refine sX11_endTerm_104 rfl ?_
      refine sX11_endTerm_105 ?_
      refine sX11_endTerm_120 rfl ?_
      refine tX11_endTerm_121 hS ?_
      refine sX11_endTerm_124 rfl ?_
      refine sX11_endTerm_125 ?_
      refine tX11_endTerm_126 hS (by decide) (by decide) rfl (show q < 21 from hq) (Or.inr rfl) ?_
      refine sX11_endTerm_127 rfl ?_
      refine tX11_endTerm_128 hS ?_
      refine sX11_endTerm_131 rfl ?_
      refine sX11_endTerm_132 ?_
      refine tX11_endTerm_133 hS (by decide) (by decide) rfl (show q < 21 from hq) (Or.inl rfl) ?_
      refine sX11_endTerm_134 (k1 _ N1 x' hor z (fun j a0 a1 a2 a3 a4 a5 a6 => by rw [xup2_r a5, xup2_r a4, xup2_r a0, xup2_r a0, o1 j a1 a2 a3, xup2_r a6]) (fun j a1 a2 => by rw [xup2_r (by decide), xup2_r (by decide), xup2_n a2, xup2_n a1, o0]) (by rw [xup2_r (by decide), xup2_r (by decide), xup2_n (by decide), xup2_s]) (by rw [xup2_r (by decide), xup2_r (by decide), xup2_s]) ?_)
      exact RX_up (by decide) (by decide) (by decide) (RX_up (by decide) (by decide) (by decide) (RX_row0 (RX_row0 px)))
  -- terms ahead
  have snd : ∀ (lv0 : List (Nat × Value)), (s = 11 ∧ K 19 q = nI 43 ∨ s = 12 ∧ K 19 q = nI 45) → K 15 q = 1 → (∀ z ∈ ([(0, .ref b), (1, .int (nI q))] : List (Nat × Value)), z ∈ lv0) → aw g l mX11_endTerm 50 lv0 [] (xB h b K) Q := by
    intro lv0 hor h15 hlv
    refine aw_lv hlv ?_
    refine sX11_endTerm_50 rfl ?_
    refine tX11_endTerm_51 hS ?_
    refine sX11_endTerm_54 rfl ?_
    refine sX11_endTerm_55 ?_
    refine tX11_endTerm_56 hS (by decide) (by decide) rfl (show q < 21 from hq) (Or.inl rfl) ?_
    refine sX11_endTerm_57 rfl ?_
    refine tX11_endTerm_58 hS ?_
    refine sX11_endTerm_61 rfl ?_
    refine tX11_endTerm_62 hS (by decide) (by decide) rfl (by simp only [rl]; omega) ?_
    rw [xup2_r (by decide), h15]
    refine sX11_endTerm_63 (fun z => absurd z (by decide)) (fun _ => ?_)
    refine sX11_endTerm_66 rfl ?_
    refine sX11_endTerm_67 rfl ?_
    refine nX11_endTerm_68 ?_
    refine sX11_endTerm_69 rfl ?_
    refine nX11_endTerm_70 ?_
    refine nX11_endTerm_71 ?_
    refine sX11_endTerm_72 rfl ?_
    refine nX11_endTerm_73 ?_
    refine nX11_endTerm_74 ?_
    refine nX11_endTerm_75 ?_
    refine sX11_endTerm_76 rfl ?_
    refine tX11_endTerm_77 hS ?_
    refine sX11_endTerm_80 rfl ?_
    refine tX11_endTerm_81 hS (by decide) (by decide) rfl (by simp only [rl]; omega) ?_
    rw [xup2_r (by decide)]
    have hX1 : RX (xup2 K 18 q 0) N S := RX_up (by decide) (by decide) (by decide) hX
    have hB1 : xup2 K 18 q 0 0 0 = nI B := by rw [xup2_r (by decide)]; exact hB
    rcases hor with ⟨hs1, h19⟩ | ⟨hs1, h19⟩
    · rw [h19]
      refine nX11_endTerm_82 ?_
      refine nX11_endTerm_84 (by decide) (by decide) (fun _ => ?_) (fun z => absurd z (by decide))
      refine sX11_endTerm_91 ?_
      refine tX11_endTerm_92 hS (Nat.le_of_ble_eq_true rfl) ?_
      refine c_sum hS hX1 (by omega) (by omega) (by omega) hB1 hB2 (ws (Or.inl hs1)) wt (Or.inl ⟨rfl, rfl⟩) (fun K1 N1 o1 p1 => ?_)
      have e : bin B s (S (3 * q)) (S (3 * q + 1)) = vAdd B (S (3 * q)) (S (3 * q + 1)) (S (3 * q + 1)).1 := by unfold bin; rw [if_pos hs1]
      rw [← e] at p1 ⊢
      exact tail K1 N1 _ (Or.inl hs1) o1 p1 (fun z hz => by simp only [List.mem_cons, List.not_mem_nil, or_false] at hz; rcases hz with rfl | rfl <;> exact xlk_mem rfl)
    · rw [h19]
      refine nX11_endTerm_82 ?_
      refine nX11_endTerm_84 (by decide) (by decide) (fun z => absurd rfl z) (fun _ => ?_)
      refine sX11_endTerm_87 ?_
      refine sX11_endTerm_88 ?_
      refine tX11_endTerm_92 hS (Nat.le_of_ble_eq_true rfl) ?_
      refine c_sum hS hX1 (by omega) (by omega) (by omega) hB1 hB2 (ws (Or.inr hs1)) wt (Or.inr ⟨rfl, rfl⟩) (fun K1 N1 o1 p1 => ?_)
      have e : bin B s (S (3 * q)) (S (3 * q + 1)) = vAdd B (S (3 * q)) (S (3 * q + 1)) (-(S (3 * q + 1)).1) := by unfold bin; rw [if_neg (by omega), if_pos hs1]
      rw [← e] at p1 ⊢
      exact tail K1 N1 _ (Or.inr hs1) o1 p1 (fun z hz => by simp only [List.mem_cons, List.not_mem_nil, or_false] at hz; rcases hz with rfl | rfl <;> exact xlk_mem rfl)
  refine sX11_endTerm_0 rfl ?_
  refine tX11_endTerm_1 hS ?_
  rw [hb]
  refine sX11_endTerm_4 ?_
  refine sX11_endTerm_5 rfl ?_
  refine tX11_endTerm_6 hS ?_
  rw [h27]
  refine sX11_endTerm_9 (fun z => absurd z (by decide)) (fun _ => ?_)
  refine sX11_endTerm_12 rfl ?_
  refine tX11_endTerm_13 hS ?_
  rw [h29]
  refine nX11_endTerm_16 (by decide) (fun _ => ?_) (fun z => absurd rfl z)
  refine sX11_endTerm_20 rfl ?_
  refine tX11_endTerm_21 hS ?_
  refine sX11_endTerm_24 rfl ?_
  refine tX11_endTerm_25 hS (by decide) (by decide) rfl (by simp only [rl]; omega) ?_
  rcases hs with ⟨s0, h15, h18⟩ | ⟨s0, h15, h18⟩ | ⟨s0, h15, h18, h19⟩ | ⟨s0, h15, h18, h19⟩
  · rw [h18]
    refine sX11_endTerm_26 (fun _ => ?_) (fun z => absurd rfl z)
    exact fst K (S (3 * q + 1)) _ (fun _ => rfl) (fun y => by omega) (Or.inl s0) h15 (fun _ _ => rfl) (by rw [vup_id]; exact hX) (fun z hz => by simp only [List.mem_cons, List.not_mem_nil, or_false] at hz; rcases hz with rfl | rfl <;> exact xlk_mem rfl)
  · rw [h18]
    refine sX11_endTerm_26 (fun z => absurd z (by decide)) (fun _ => ?_)
    refine sX11_endTerm_29 rfl ?_
    refine tX11_endTerm_30 hS ?_
    refine nX11_endTerm_33 ?_
    refine sX11_endTerm_34 rfl ?_
    refine nX11_endTerm_35 ?_
    refine nX11_endTerm_36 ?_
    refine nX11_endTerm_37 ?_
    refine sX11_endTerm_38 rfl ?_
    refine tX11_endTerm_39 hS ?_
    refine nX11_endTerm_42 ?_
    refine sX11_endTerm_43 rfl ?_
    refine nX11_endTerm_44 ?_
    refine nX11_endTerm_45 ?_
    refine nX11_endTerm_46 ?_
    refine tX11_endTerm_47 hS (by decide) (by decide) rfl (by simp only [rl]; omega) ?_
    rw [(hX.2 (3 * q + 1) (by omega)).2.2.1]
    refine sX11_endTerm_48 ?_
    refine tX11_endTerm_49 hS (by decide) (by decide) rfl (by simp only [rl]; omega) ?_
    exact fst _ _ _ (fun y => by omega) (fun _ => rfl) (Or.inr s0) h15 (fun j hj => xup2_r hj) (RX_sgn hX) (fun z hz => by simp only [List.mem_cons, List.not_mem_nil, or_false] at hz; rcases hz with rfl | rfl <;> exact xlk_mem rfl)
  · rw [h18]
    refine sX11_endTerm_26 (fun _ => ?_) (fun z => absurd rfl z)
    exact snd _ (Or.inl ⟨s0, h19⟩) h15 (fun z hz => by simp only [List.mem_cons, List.not_mem_nil, or_false] at hz; rcases hz with rfl | rfl <;> exact xlk_mem rfl)
  · rw [h18]
    refine sX11_endTerm_26 (fun _ => ?_) (fun z => absurd rfl z)
    exact snd _ (Or.inr ⟨s0, h19⟩) h15 (fun z hz => by simp only [List.mem_cons, List.not_mem_nil, or_false] at hz; rcases hz with rfl | rfl <;> exact xlk_mem rfl)
theorem c_endPowerS (hS : RS h b) (h27 : K 0 27 = 0) (k : Q none (xB h b K)) : ac g l mX11_endPower [.ref b] (xB h b K) Q := by
  refine ac_of (by decide) (Nat.le_of_ble_eq_true rfl) ?_
  refine sX11_endPower_0 rfl ?_
  refine tX11_endPower_1 hS ?_
  refine sX11_endPower_4 ?_
  refine sX11_endPower_5 rfl ?_
  refine tX11_endPower_6 hS ?_
  rw [h27]
  refine sX11_endPower_9 (fun z => absurd rfl z) (fun _ => ?_)
  exact sX11_endPower_12 k
theorem c_endRowS (hS : RS h b) (h27 : K 0 27 = 0 ∨ K 0 29 ≠ 0) (k : Q none (xB h b K)) : ac g l mX11_endRow [.ref b] (xB h b K) Q := by
  refine ac_of (by decide) (Nat.le_of_ble_eq_true rfl) ?_
  refine sX11_endRow_0 rfl ?_
  refine tX11_endRow_1 hS ?_
  refine sX11_endRow_4 ?_
  refine sX11_endRow_5 rfl ?_
  refine tX11_endRow_6 hS ?_
  refine sX11_endRow_9 (fun _ => sX11_endRow_19 k) (fun z => ?_)
  refine sX11_endRow_12 rfl ?_
  refine tX11_endRow_13 hS ?_
  exact sX11_endRow_16 (fun y => by rcases h27 with w | w; exact absurd w z; exact absurd y w) (fun _ => sX11_endRow_19 k)
theorem c_endTermS (hS : RS h b) (h27 : K 0 27 = 0 ∨ K 0 29 ≠ 0) (k : Q none (xB h b K)) : ac g l mX11_endTerm [.ref b] (xB h b K) Q := by
  refine ac_of (by decide) (Nat.le_of_ble_eq_true rfl) ?_
  refine sX11_endTerm_0 rfl ?_
  refine tX11_endTerm_1 hS ?_
  refine sX11_endTerm_4 ?_
  refine sX11_endTerm_5 rfl ?_
  refine tX11_endTerm_6 hS ?_
  refine sX11_endTerm_9 (fun _ => sX11_endTerm_19 k) (fun z => ?_)
  refine sX11_endTerm_12 rfl ?_
  refine tX11_endTerm_13 hS ?_
  exact sX11_endTerm_16 (fun y => by rcases h27 with w | w; exact absurd w z; exact absurd y w) (fun _ => sX11_endTerm_19 k)
end RefEnd2
