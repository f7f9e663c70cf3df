/-! ===== the reference reads lines ===== -/
/-- its text is the TAPE -/
def RTt (K : Nat → Nat → Int32) (C : Nat → Nat) (m d n : Nat) : Prop := tOk C m ∧ n + d = m ∧ K 0 21 = nI n ∧ K 0 20 = 0 ∧ n ≤ 4000 ∧ ∀ p, p < n → K 4 p = nI (C (p + d))
theorem RTt_RT {K : Nat → Nat → Int32} {C : Nat → Nat} {m d n : Nat} (h : RTt K C m d n) : RT K C m d n 0 := ⟨h.1, h.2.1, h.2.2.1, Or.inr ⟨h.2.2.2.1, h.2.2.2.2.1, fun p _ hp => h.2.2.2.2.2 p hp⟩⟩
theorem RTt_c {K K' : Nat → Nat → Int32} {C : Nat → Nat} {m d n : Nat} (e20 : K' 0 20 = K 0 20) (e21 : K' 0 21 = K 0 21) (e4 : K' 4 = K 4) (h : RTt K C m d n) : RTt K' C m d n := by
  obtain ⟨h1, h2, h3, h4, h5, h6⟩ := h
  exact ⟨h1, h2, e21.trans h3, e20.trans h4, h5, fun p hp => by rw [e4]; exact h6 p hp⟩
section RLine
variable {g : xG} {l : Launch} {h : xH} {b : Nat} {K : Nat → Nat → Int32} {N : Nat → Nat} {S : Nat → Vl} {Q : Option Value → xH → Prop} {C : Nat → Nat} {m d n c : Nat}
theorem c_lineFails {f : Nat} {p : Int32} (hS : RS h b) (k : Q none (xB h b (xup2 (xup2 K 0 45 (nI f)) 0 46 p))) : ac g l mX11_lineFails [.ref b, .int (nI f), .int p] (xB h b K) Q := by
  refine ac_of (by decide) (Nat.le_of_ble_eq_true rfl) ?_
  refine sX11_lineFails_0 rfl ?_
  refine sX11_lineFails_1 rfl ?_
  refine tX11_lineFails_2 hS ?_
  refine sX11_lineFails_5 rfl ?_
  refine sX11_lineFails_6 rfl ?_
  refine tX11_lineFails_7 hS ?_
  exact sX11_lineFails_10 k
theorem c_failed {f : Nat} {p : Int32} (hS : RS h b) (k : Q (some (.int (-10 - p))) (xB h b (xup2 K 0 18 (nI f)))) : ac g l mX11_failed [.ref b, .int (nI f), .int p] (xB h b K) Q := by
  refine ac_of (by decide) (Nat.le_of_ble_eq_true rfl) ?_
  refine sX11_failed_0 rfl ?_
  refine sX11_failed_1 rfl ?_
  refine tX11_failed_2 hS ?_
  refine sX11_failed_5 ?_
  refine sX11_failed_7 rfl ?_
  refine sX11_failed_8 ?_
  exact sX11_failed_9 k
theorem c_isTwice {a e s lo : Nat} {so ln : Nat → Nat} {nm : Nat → Nat → Nat} (hS : RS h b) (hT : RT K C m d n lo) (hM : RM K so ln nm c) (h42 : K 0 42 = nI c) (ha : lo + d ≤ a) (hae : a ≤ e) (he : e ≤ m) (hs : s ≤ 2) (k1 : fd (pG so ln nm (decide (s = 2)) C a (e - a)) 0 c ≠ none → Q (some (.int 1)) (xB h b K)) (k0 : fd (pG so ln nm (decide (s = 2)) C a (e - a)) 0 c = none → Q (some (.int 0)) (xB h b K)) : ac g l mX11_isTwice [.ref b, .int (nI (a - d)), .int (nI (e - d)), .int (nI s)] (xB h b K) Q := by
  refine ac_of (by decide) (Nat.le_of_ble_eq_true rfl) ?_
  have hc := hM.1
  refine nX11_isTwice_0 ?_
  refine sX11_isTwice_1 ?_
  suffices Hl : ∀ f i (lv0 : List (Nat × Value)), i + f = c → (∀ j, j < i → pG so ln nm (decide (s = 2)) C a (e - a) j = false) → (∀ z ∈ ([(0, .ref b), (1, .int (nI (a - d))), (2, .int (nI (e - d))), (3, .int (nI s)), (4, .int (nI i))] : List (Nat × Value)), z ∈ lv0) → aw g l mX11_isTwice 3 lv0 [] (xB h b K) Q from Hl c 0 _ (by omega) (fun j hj => by omega) (fun z hz => by simp only [List.mem_cons, List.not_mem_nil, or_false] at hz; rcases hz with rfl | rfl | rfl | rfl | rfl <;> exact xlk_mem rfl)
  intro f
  induction f with
  | zero =>
    intro i lv0 hi ho hlv
    refine aw_lv hlv ?_
    refine sX11_isTwice_3 rfl ?_
    refine sX11_isTwice_5 rfl ?_
    refine tX11_isTwice_6 hS ?_
    rw [h42]
    refine nX11_isTwice_9 (by omega) (by omega) (fun _ => ?_) (fun z => absurd z (by omega))
    refine sX11_isTwice_60 ?_
    exact sX11_isTwice_61 (Or.inl rfl) (k0 (fd_none.mpr (fun j _ hj => ho j (by omega))))
  | succ f ih =>
    intro i lv0 hi ho hlv
    refine aw_lv hlv ?_
    obtain ⟨s1, s2⟩ := (hM.2 i (by omega)).1
    have next : ∀ lv1 : List (Nat × Value), pG so ln nm (decide (s = 2)) C a (e - a) i = false → (∀ z ∈ ([(0, .ref b), (1, .int (nI (a - d))), (2, .int (nI (e - d))), (3, .int (nI s)), (4, .int (nI i))] : List (Nat × Value)), z ∈ lv1) → aw g l mX11_isTwice 54 lv1 [] (xB h b K) Q := by
      intro lv1 hp hlv1
      refine aw_lv hlv1 ?_
      refine nX11_isTwice_54 rfl ?_
      refine sX11_isTwice_57 ?_
      refine ih (i + 1) _ (by omega) (fun j hj => ?_) (fun z hz => by simp only [List.mem_cons, List.not_mem_nil, or_false] at hz; rcases hz with rfl | rfl | rfl | rfl | rfl <;> exact xlk_mem rfl)
      rcases Nat.eq_or_lt_of_le (Nat.le_of_lt_succ hj) with w | w
      · rw [w]; exact hp
      · exact ho j w
    have third : ∀ (t t2 : Int32) (lv1 : List (Nat × Value)), (t = 1 ∧ so i = 2 ∨ t = 0 ∧ so i ≠ 2) → (t2 = 1 ∧ s = 2 ∨ t2 = 0 ∧ s ≠ 2) → (∀ z ∈ ([(0, .ref b), (1, .int (nI (a - d))), (2, .int (nI (e - d))), (3, .int (nI s)), (4, .int (nI i))] : List (Nat × Value)), z ∈ lv1) → aw g l mX11_isTwice 38 lv1 [.int t2, .int t] (xB h b K) Q := by
      intro t t2 lv1 ht ht2 hlv1
      refine aw_lv hlv1 ?_
      by_cases eq : (so i = 2 ↔ s = 2)
      · have et : t = t2 := by
          rcases ht with ⟨rfl, y⟩ | ⟨rfl, y⟩ <;> rcases ht2 with ⟨rfl, w⟩ | ⟨rfl, w⟩
          · rfl
          · exact absurd (eq.mp y) w
          · exact absurd (eq.mpr w) y
          · rfl
        refine sX11_isTwice_38 (fun z => absurd et z) (fun _ => ?_)
        refine sX11_isTwice_41 rfl ?_
        refine sX11_isTwice_42 rfl ?_
        refine sX11_isTwice_44 rfl ?_
        refine sX11_isTwice_45 rfl ?_
        refine tX11_isTwice_46 hS (Nat.le_of_ble_eq_true rfl) ?_
        have hd : decide (so i = 2) = decide (s = 2) := decide_eq_decide.mpr eq
        refine c_isNamed hS hT hM (by omega) ha hae he (fun y => ?_) (fun y => ?_)
        · refine sX11_isTwice_49 (fun v => absurd v (by decide)) (fun _ => ?_)
          refine sX11_isTwice_52 ?_
          refine sX11_isTwice_53 (Or.inr rfl) (k1 (fun v => ?_))
          have := fd_none.mp v i (Nat.zero_le _) (by omega)
          unfold pG at this
          rw [hd, y] at this
          simp at this
        · refine sX11_isTwice_49 (fun _ => ?_) (fun v => absurd rfl v)
          refine next _ ?_ (fun z hz => by simp only [List.mem_cons, List.not_mem_nil, or_false] at hz; rcases hz with rfl | rfl | rfl | rfl | rfl <;> exact xlk_mem rfl)
          unfold pG
          rw [y]
          simp
      · refine sX11_isTwice_38 (fun _ => ?_) (fun z => ?_)
        · refine next _ ?_ (fun z hz => by simp only [List.mem_cons, List.not_mem_nil, or_false] at hz; rcases hz with rfl | rfl | rfl | rfl | rfl <;> exact xlk_mem rfl)
          unfold pG
          have : (decide (so i = 2) == decide (s = 2)) = false := by
            rw [beq_eq_false_iff_ne]
            intro v
            exact eq (decide_eq_decide.mp v)
          rw [this]
          rfl
        · exfalso
          rcases ht with ⟨rfl, y⟩ | ⟨rfl, y⟩ <;> rcases ht2 with ⟨rfl, w⟩ | ⟨rfl, w⟩
          · exact eq ⟨fun _ => w, fun _ => y⟩
          · exact absurd z (by decide)
          · exact absurd z (by decide)
          · exact eq ⟨fun v => absurd v y, fun v => absurd v w⟩
    have second : ∀ (t : Int32) (lv1 : List (Nat × Value)), (t = 1 ∧ so i = 2 ∨ t = 0 ∧ so i ≠ 2) → (∀ z ∈ ([(0, .ref b), (1, .int (nI (a - d))), (2, .int (nI (e - d))), (3, .int (nI s)), (4, .int (nI i))] : List (Nat × Value)), z ∈ lv1) → aw g l mX11_isTwice 28 lv1 [.int t] (xB h b K) Q := by
      intro t lv1 ht hlv1
      refine aw_lv hlv1 ?_
      refine sX11_isTwice_28 rfl ?_
      refine nX11_isTwice_29 ?_
      refine nX11_isTwice_30 (by omega) (by decide) (fun z => ?_) (fun z => ?_)
      · refine sX11_isTwice_37 ?_
        exact third t 0 _ ht (Or.inr ⟨rfl, z⟩) (fun z hz => by simp only [List.mem_cons, List.not_mem_nil, or_false] at hz; rcases hz with rfl | rfl | rfl | rfl | rfl <;> exact xlk_mem rfl)
      · refine sX11_isTwice_33 ?_
        refine sX11_isTwice_34 ?_
        exact third t 1 _ ht (Or.inl ⟨rfl, z⟩) (fun z hz => by simp only [List.mem_cons, List.not_mem_nil, or_false] at hz; rcases hz with rfl | rfl | rfl | rfl | rfl <;> exact xlk_mem rfl)
    refine sX11_isTwice_3 rfl ?_
    refine sX11_isTwice_5 rfl ?_
    refine tX11_isTwice_6 hS ?_
    rw [h42]
    refine nX11_isTwice_9 (by omega) (by omega) (fun z => absurd z (by omega)) (fun _ => ?_)
    refine sX11_isTwice_12 rfl ?_
    refine tX11_isTwice_13 hS ?_
    refine sX11_isTwice_16 rfl ?_
    refine tX11_isTwice_18 hS (by decide) (by decide) rfl (show i < 210 by omega) ?_
    rw [s1]
    refine nX11_isTwice_19 ?_
    refine nX11_isTwice_20 (by omega) (by decide) (fun z => ?_) (fun z => ?_)
    · refine sX11_isTwice_27 ?_
      exact second 0 _ (Or.inr ⟨rfl, z⟩) (fun z hz => by simp only [List.mem_cons, List.not_mem_nil, or_false] at hz; rcases hz with rfl | rfl | rfl | rfl | rfl <;> exact xlk_mem rfl)
    · refine sX11_isTwice_23 ?_
      refine sX11_isTwice_24 ?_
      exact second 1 _ (Or.inl ⟨rfl, z⟩) (fun z hz => by simp only [List.mem_cons, List.not_mem_nil, or_false] at hz; rcases hz with rfl | rfl | rfl | rfl | rfl <;> exact xlk_mem rfl)
theorem c_comes {a e q s bs fi : Nat} (hS : RS h b) (hT : RTt K C m d n) (h42 : K 0 42 = nI c) (hc : c < 100) (h43 : K 0 43 = nI bs) (h44 : K 0 44 = nI fi) (hda : d ≤ a) (hae : a ≤ e) (hen : e - a ≤ 24) (hem : e ≤ m) (hdq : d ≤ q) (hqm : q ≤ m) (hfi : fi + (m - q) ≤ 80000) (hs : s ≤ 2)
    (k : ∀ K', (∀ r, r ≠ 0 → r < 5 ∨ 11 < r → K' r = K r) → (∀ r, r = 5 ∨ r = 6 ∨ r = 8 ∨ r = 9 ∨ r = 10 → ∀ i, i ≠ c → K' r i = K r i) → (∀ i, i < 24 * c → K' 7 i = K 7 i) → (∀ p, p < fi → K' 11 p = K 11 p) → (∀ j, j ≠ 42 → j ≠ 43 → j ≠ 44 → K' 0 j = K 0 j) → K' 5 c = nI s → K' 6 c = nI bs → K' 8 c = nI (e - a) → (∀ i, i < e - a → K' 7 (24 * c + i) = nI (C (a + i))) → K' 9 c = nI fi → K' 10 c = nI (if s = 0 then fi else fi + (m - q)) → (s ≠ 0 → ∀ p, fi ≤ p → p < fi + (m - q) → K' 11 p = nI (C (p - fi + q))) → K' 0 42 = nI (c + 1) → K' 0 43 = nI (bs + (if s = 0 then 1 else 0)) → K' 0 44 = nI (if s = 0 then fi else fi + (m - q)) → Q none (xB h b K')) : ac g l mX11_comes [.ref b, .int (nI s), .int (nI (a - d)), .int (nI (e - d)), .int (nI (q - d))] (xB h b K) Q := by
  refine ac_of (by decide) (Nat.le_of_ble_eq_true rfl) ?_
  have hnd := hT.2.1
  have hn4 := hT.2.2.2.2.1
  have h21 := hT.2.2.1
  -- the end
  have tail : ∀ (K1 : Nat → Nat → Int32) (fi' : Nat) (lv0 : List (Nat × Value)), K1 0 42 = nI c → K1 0 44 = nI fi' → Q none (xB h b (xup2 (xup2 K1 10 c (nI fi')) 0 42 (nI (c + 1)))) → (∀ z ∈ ([(0, .ref b)] : List (Nat × Value)), z ∈ lv0) → aw g l mX11_comes 154 lv0 [] (xB h b K1) Q := by
    intro K1 fi' lv0 e42 e44 kk hlv
    refine aw_lv hlv ?_
    refine sX11_comes_154 rfl ?_
    refine tX11_comes_155 hS ?_
    refine sX11_comes_158 rfl ?_
    refine tX11_comes_159 hS ?_
    rw [e42]
    refine sX11_comes_162 rfl ?_
    refine tX11_comes_163 hS ?_
    rw [e44]
    refine tX11_comes_166 hS (by decide) (by decide) rfl (show c < 210 by omega) ?_
    refine sX11_comes_167 rfl ?_
    refine sX11_comes_168 rfl ?_
    refine tX11_comes_169 hS ?_
    rw [xup2_r (by decide), e42]
    refine nX11_comes_172 ?_
    refine nX11_comes_173 ?_
    refine tX11_comes_174 hS ?_
    exact sX11_comes_177 kk
  -- the text
  have text : ∀ (K1 : Nat → Nat → Int32) (lv0 : List (Nat × Value)), (∀ r, r ≠ 0 → r < 5 ∨ 11 < r → K1 r = K r) → (∀ r, r = 5 ∨ r = 6 ∨ r = 8 ∨ r = 9 ∨ r = 10 → ∀ i, i ≠ c → K1 r i = K r i) → (∀ i, i < 24 * c → K1 7 i = K 7 i) → K1 11 = K 11 → (∀ j, j ≠ 43 → K1 0 j = K 0 j) → K1 5 c = nI s → K1 6 c = nI bs → K1 8 c = nI (e - a) → (∀ i, i < e - a → K1 7 (24 * c + i) = nI (C (a + i))) → K1 0 43 = nI (bs + (if s = 0 then 1 else 0)) → (∀ z ∈ ([(0, .ref b), (1, .int (nI s)), (4, .int (nI (q - d)))] : List (Nat × Value)), z ∈ lv0) → aw g l mX11_comes 93 lv0 [] (xB h b K1) Q := by
    intro K1 lv0 o1 o2 o3 o4 o5 e5 e6 e8 e7 e43 hlv
    refine aw_lv hlv ?_
    refine sX11_comes_93 rfl ?_
    refine tX11_comes_94 hS ?_
    refine sX11_comes_97 rfl ?_
    refine tX11_comes_98 hS ?_
    rw [o5 42 (by decide), h42]
    refine sX11_comes_101 rfl ?_
    refine tX11_comes_102 hS ?_
    rw [o5 44 (by decide), h44]
    refine tX11_comes_105 hS (by decide) (by decide) rfl (show c < 210 by omega) ?_
    refine sX11_comes_106 rfl ?_
    refine sX11_comes_108 ?_
    suffices Hl : ∀ f t (K2 : Nat → Nat → Int32) (lv1 : List (Nat × Value)), t + f = m - q → (∀ r, r ≠ 0 → r ≠ 11 → K2 r = xup2 K1 9 c (nI fi) r) → (∀ p, p < fi → K2 11 p = K 11 p) → (∀ j, j < t → K2 11 (fi + j) = nI (C (q + j))) → (∀ j, j ≠ 44 → K2 0 j = K1 0 j) → K2 0 44 = nI (fi + t) → (s = 0 → t = 0) → (∀ z ∈ ([(0, .ref b), (1, .int (nI s)), (5, .int (nI (q - d + t)))] : List (Nat × Value)), z ∈ lv1) → aw g l mX11_comes 110 lv1 [] (xB h b K2) Q from Hl (m - q) 0 _ _ (by omega) (fun _ _ _ => rfl) (fun p _ => by rw [xup2_r (by decide), o4]) (fun j hj => by omega) (fun j _ => by rw [xup2_r (by decide)]) (by rw [xup2_r (by decide), o5 44 (by decide)]; exact h44) (fun _ => rfl) (fun z hz => by simp only [List.mem_cons, List.not_mem_nil, or_false] at hz; rcases hz with rfl | rfl | rfl <;> exact xlk_mem rfl)
    intro f
    -- how it ends
    have fin : ∀ (t : Nat) (K2 : Nat → Nat → Int32) (lv1 : List (Nat × Value)), (s = 0 ∧ t = 0 ∨ s ≠ 0 ∧ t = m - q) → (∀ r, r ≠ 0 → r ≠ 11 → K2 r = xup2 K1 9 c (nI fi) r) → (∀ p, p < fi → K2 11 p = K 11 p) → (∀ j, j < t → K2 11 (fi + j) = nI (C (q + j))) → (∀ j, j ≠ 44 → K2 0 j = K1 0 j) → K2 0 44 = nI (fi + t) → (∀ z ∈ ([(0, .ref b)] : List (Nat × Value)), z ∈ lv1) → aw g l mX11_comes 154 lv1 [] (xB h b K2) Q := by
      intro t K2 lv1 ht u1 u2 u3 u4 u5 hlv1
      have e42 : K2 0 42 = nI c := by rw [u4 42 (by decide), o5 42 (by decide)]; exact h42
      have eft : fi + t = (if s = 0 then fi else fi + (m - q)) := by
        rcases ht with ⟨z, w⟩ | ⟨z, w⟩
        · rw [if_pos z, w]; rfl
        · rw [if_neg z, w]
      rw [eft] at u5
      have vr : ∀ r, r ≠ 0 → r ≠ 11 → r ≠ 10 → xup2 (xup2 K2 10 c (nI (if s = 0 then fi else fi + (m - q)))) 0 42 (nI (c + 1)) r = xup2 K1 9 c (nI fi) r := fun r a1 a2 a3 => by rw [xup2_r a1, xup2_r a3]; exact u1 r a1 a2
      refine tail K2 _ lv1 e42 u5 (k _ (fun r a1 a2 => ?_) (fun r a1 i a2 => ?_) (fun i hi => ?_) (fun p hp => ?_) (fun j a1 a2 a3 => ?_) ?_ ?_ ?_ (fun i hi => ?_) ?_ ?_ (fun z p a1 a2 => ?_) xup2_s ?_ ?_) hlv1
      · rw [vr r a1 (by omega) (by omega), xup2_r (by omega)]; exact o1 r a1 a2
      · by_cases e10 : r = 10
        · subst e10
          rw [xup2_r (by decide), xup2_n a2, u1 10 (by decide) (by decide), xup2_r (by decide)]; exact o2 10 a1 i a2
        · rw [vr r (by omega) (by omega) e10]
          by_cases e9 : r = 9
          · subst e9; rw [xup2_n a2]; exact o2 9 a1 i a2
          · rw [xup2_r e9]; exact o2 r a1 i a2
      · rw [vr 7 (by decide) (by decide) (by decide), xup2_r (by decide)]; exact o3 i hi
      · rw [xup2_r (by decide), xup2_r (by decide)]; exact u2 p hp
      · rw [xup2_n a1, xup2_r (by decide), u4 j a3]; exact o5 j a2
      · rw [vr 5 (by decide) (by decide) (by decide), xup2_r (by decide)]; exact e5
      · rw [vr 6 (by decide) (by decide) (by decide), xup2_r (by decide)]; exact e6
      · rw [vr 8 (by decide) (by decide) (by decide), xup2_r (by decide)]; exact e8
      · rw [vr 7 (by decide) (by decide) (by decide), xup2_r (by decide)]; exact e7 i hi
      · rw [vr 9 (by decide) (by decide) (by decide), xup2_s]
      · rw [xup2_r (by decide), xup2_s]
      · rw [xup2_r (by decide), xup2_r (by decide)]
        have := u3 (p - fi) (by rcases ht with ⟨w, -⟩ | ⟨-, w⟩; exact absurd w z; omega)
        rw [show fi + (p - fi) = p by omega, show q + (p - fi) = p - fi + q by omega] at this
        exact this
      · rw [xup2_n (by decide), xup2_r (by decide), u4 43 (by decide)]; exact e43
      · rw [xup2_n (by decide), xup2_r (by decide)]; exact u5
    induction f with
    | zero =>
      intro t K2 lv1 ht u1 u2 u3 u4 u5 u6 hlv1
      refine aw_lv hlv1 ?_
      refine sX11_comes_110 rfl ?_
      refine sX11_comes_112 rfl ?_
      refine tX11_comes_113 hS ?_
      rw [u4 21 (by decide), o5 21 (by decide), h21]
      refine nX11_comes_116 (by omega) (by omega) (fun _ => ?_) (fun z => absurd z (by omega))
      refine fin t K2 _ ?_ u1 u2 u3 u4 u5 (fun z hz => by simp only [List.mem_cons, List.not_mem_nil, or_false] at hz; rcases hz with rfl <;> exact xlk_mem rfl)
      by_cases z : s = 0
      · exact Or.inl ⟨z, u6 z⟩
      · exact Or.inr ⟨z, by omega⟩
    | succ f ih =>
      intro t K2 lv1 ht u1 u2 u3 u4 u5 u6 hlv1
      refine aw_lv hlv1 ?_
      refine sX11_comes_110 rfl ?_
      refine sX11_comes_112 rfl ?_
      refine tX11_comes_113 hS ?_
      rw [u4 21 (by decide), o5 21 (by decide), h21]
      refine nX11_comes_116 (by omega) (by omega) (fun z => absurd z (by omega)) (fun _ => ?_)
      refine sX11_comes_119 rfl ?_
      refine nX11_comes_120 (by omega) (fun z => ?_) (fun z => ?_)
      · exact fin t K2 _ (Or.inl ⟨z, u6 z⟩) u1 u2 u3 u4 u5 (fun z hz => by simp only [List.mem_cons, List.not_mem_nil, or_false] at hz; rcases hz with rfl <;> exact xlk_mem rfl)
      · have hT2 : RTt K2 C m d n := RTt_c (by rw [u4 20 (by decide), o5 20 (by decide)]) (by rw [u4 21 (by decide), o5 21 (by decide)]) (by rw [u1 4 (by decide) (by decide), xup2_r (by decide), o1 4 (by decide) (by omega)]) hT
        refine sX11_comes_123 rfl ?_
        refine tX11_comes_124 hS ?_
        refine sX11_comes_127 rfl ?_
        refine tX11_comes_128 hS ?_
        rw [u5]
        refine sX11_comes_131 rfl ?_
        refine sX11_comes_132 rfl ?_
        refine tX11_comes_134 hS (Nat.le_of_ble_eq_true rfl) ?_
        refine c_at (p := q - d + t) hS (RTt_RT hT2) (by omega) (Nat.zero_le _) ?_
        rw [show q - d + t + d = q + t by omega]
        show aw g l mX11_comes 137 _ (.int (nI (C (q + t))) :: .int (nI (fi + t)) :: .ref (b + 11) :: []) _ Q
        refine tX11_comes_137 hS (by decide) (by decide) rfl (show fi + t < 90000 by omega) ?_
        refine sX11_comes_138 rfl ?_
        refine sX11_comes_139 rfl ?_
        refine tX11_comes_140 hS ?_
        rw [xup2_r (by decide), u5]
        refine nX11_comes_143 ?_
        refine nX11_comes_144 ?_
        refine tX11_comes_145 hS ?_
        refine nX11_comes_148 rfl ?_
        refine sX11_comes_151 ?_
        refine ih (t + 1) _ _ (by omega) (fun r a1 a2 => by rw [xup2_r a1, xup2_r a2]; exact u1 r a1 a2) (fun p hp => by rw [xup2_r (by decide), xup2_n (by omega)]; exact u2 p hp) (fun j hj => ?_) (fun j hj => by rw [xup2_n hj, xup2_r (by decide)]; exact u4 j hj) xup2_s (fun y => absurd y z) (fun z hz => by simp only [List.mem_cons, List.not_mem_nil, or_false] at hz; rcases hz with rfl | rfl | rfl <;> exact xlk_mem rfl)
        rw [xup2_r (by decide)]
        rcases Nat.eq_or_lt_of_le (Nat.le_of_lt_succ hj) with w | w
        · rw [w, xup2_s]
        · rw [xup2_n (by omega)]; exact u3 j w
  -- the NAME
  have name : ∀ (K1 : Nat → Nat → Int32) (lv0 : List (Nat × Value)), (∀ r, r ≠ 0 → r < 5 ∨ 11 < r → K1 r = K r) → (∀ r, r = 5 ∨ r = 6 ∨ r = 8 ∨ r = 9 ∨ r = 10 → ∀ i, i ≠ c → K1 r i = K r i) → K1 7 = K 7 → K1 11 = K 11 → (∀ j, j ≠ 43 → K1 0 j = K 0 j) → K1 5 c = nI s → K1 6 c = nI bs → K1 8 c = nI (e - a) → K1 0 43 = nI (bs + (if s = 0 then 1 else 0)) → (∀ z ∈ ([(0, .ref b), (1, .int (nI s)), (2, .int (nI (a - d))), (3, .int (nI (e - d))), (4, .int (nI (q - d)))] : List (Nat × Value)), z ∈ lv0) → aw g l mX11_comes 53 lv0 [] (xB h b K1) Q := by
    intro K1 lv0 o1 o2 o3 o4 o5 e5 e6 e8 e43 hlv
    refine aw_lv hlv ?_
    refine nX11_comes_53 ?_
    refine sX11_comes_54 ?_
    suffices Hl : ∀ f t (K2 : Nat → Nat → Int32) (lv1 : List (Nat × Value)), t + f = e - a → (∀ r, r ≠ 7 → K2 r = K1 r) → (∀ i, i < 24 * c → K2 7 i = K 7 i) → (∀ i, i < t → K2 7 (24 * c + i) = nI (C (a + i))) → (∀ z ∈ ([(0, .ref b), (1, .int (nI s)), (2, .int (nI (a - d))), (3, .int (nI (e - d))), (4, .int (nI (q - d))), (5, .int (nI t))] : List (Nat × Value)), z ∈ lv1) → aw g l mX11_comes 56 lv1 [] (xB h b K2) Q from Hl (e - a) 0 K1 _ (by omega) (fun _ _ => rfl) (fun i _ => by rw [o3]) (fun i hi => by omega) (fun z hz => by simp only [List.mem_cons, List.not_mem_nil, or_false] at hz; rcases hz with rfl | rfl | rfl | rfl | rfl | rfl <;> exact xlk_mem rfl)
    intro f
    induction f with
    | zero =>
      intro t K2 lv1 ht u1 u2 u3 hlv1
      refine aw_lv hlv1 ?_
      refine sX11_comes_56 rfl ?_
      refine sX11_comes_58 rfl ?_
      refine sX11_comes_59 rfl ?_
      refine nX11_comes_60 (by omega) ?_
      refine nX11_comes_61 (by omega) (by omega) (fun _ => ?_) (fun z => absurd z (by omega))
      refine text K2 _ (fun r a1 a2 => by rw [u1 r (by omega)]; exact o1 r a1 a2) (fun r a1 i a2 => by rw [u1 r (by omega)]; exact o2 r a1 i a2) u2 (by rw [u1 11 (by decide)]; exact o4) (fun j hj => by rw [u1 0 (by decide)]; exact o5 j hj) (by rw [u1 5 (by decide)]; exact e5) (by rw [u1 6 (by decide)]; exact e6) (by rw [u1 8 (by decide)]; exact e8) (fun i hi => u3 i (by omega)) (by rw [u1 0 (by decide)]; exact e43) (fun z hz => by simp only [List.mem_cons, List.not_mem_nil, or_false] at hz; rcases hz with rfl | rfl | rfl <;> exact xlk_mem rfl)
    | succ f ih =>
      intro t K2 lv1 ht u1 u2 u3 hlv1
      refine aw_lv hlv1 ?_
      refine sX11_comes_56 rfl ?_
      refine sX11_comes_58 rfl ?_
      refine sX11_comes_59 rfl ?_
      refine nX11_comes_60 (by omega) ?_
      refine nX11_comes_61 (by omega) (by omega) (fun z => absurd z (by omega)) (fun _ => ?_)
      have hT2 : RTt K2 C m d n := RTt_c (by rw [u1 0 (by decide), o5 20 (by decide)]) (by rw [u1 0 (by decide), o5 21 (by decide)]) (by rw [u1 4 (by decide), o1 4 (by decide) (by omega)]) hT
      refine sX11_comes_64 rfl ?_
      refine tX11_comes_65 hS ?_
      refine nX11_comes_68 ?_
      refine sX11_comes_70 rfl ?_
      refine tX11_comes_71 hS ?_
      rw [u1 0 (by decide), o5 42 (by decide), h42]
      refine nX11_comes_74 ?_
      refine sX11_comes_75 rfl ?_
      refine nX11_comes_77 ?_
      refine sX11_comes_78 rfl ?_
      refine sX11_comes_79 rfl ?_
      refine sX11_comes_80 rfl ?_
      refine nX11_comes_82 ?_
      refine tX11_comes_83 hS (Nat.le_of_ble_eq_true rfl) ?_
      refine c_at (p := a - d + t) hS (RTt_RT hT2) (by omega) (Nat.zero_le _) ?_
      rw [show a - d + t + d = a + t by omega]
      show aw g l mX11_comes 86 _ (.int (nI (C (a + t))) :: .int (nI (24 * c + t)) :: .ref (b + 7) :: []) _ Q
      refine tX11_comes_86 hS (by decide) (by decide) rfl (show 24 * c + t < 5040 by omega) ?_
      refine nX11_comes_87 rfl ?_
      refine sX11_comes_90 ?_
      refine ih (t + 1) _ _ (by omega) (fun r hr => by rw [xup2_r hr]; exact u1 r hr) (fun i hi => by rw [xup2_n (by omega)]; exact u2 i hi) (fun i hi => ?_) (fun z hz => by simp only [List.mem_cons, List.not_mem_nil, or_false] at hz; rcases hz with rfl | rfl | rfl | rfl | rfl | rfl <;> exact xlk_mem rfl)
      rcases Nat.eq_or_lt_of_le (Nat.le_of_lt_succ hi) with w | w
      · rw [w, xup2_s]
      · rw [xup2_n (by omega)]; exact u3 i w
  refine sX11_comes_0 rfl ?_
  refine tX11_comes_1 hS ?_
  refine sX11_comes_4 rfl ?_
  refine tX11_comes_5 hS ?_
  rw [h42]
  refine sX11_comes_8 rfl ?_
  refine tX11_comes_9 hS (by decide) (by decide) rfl (by simp only [rl]; omega) ?_
  refine sX11_comes_10 rfl ?_
  refine tX11_comes_11 hS ?_
  refine sX11_comes_14 rfl ?_
  refine tX11_comes_15 hS ?_
  rw [xup2_r (by decide), h42]
  refine sX11_comes_18 rfl ?_
  refine tX11_comes_19 hS ?_
  rw [xup2_r (by decide), h43]
  refine tX11_comes_22 hS (by decide) (by decide) rfl (by simp only [rl]; omega) ?_
  refine sX11_comes_23 rfl ?_
  refine sX11_comes_24 rfl ?_
  refine tX11_comes_25 hS ?_
  rw [xup2_r (by decide), xup2_r (by decide), h43]
  have last : ∀ (x : Nat) (lv0 : List (Nat × Value)), x = (if s = 0 then 1 else 0) → (∀ z ∈ ([(0, .ref b), (1, .int (nI s)), (2, .int (nI (a - d))), (3, .int (nI (e - d))), (4, .int (nI (q - d)))] : List (Nat × Value)), z ∈ lv0) → aw g l mX11_comes 37 lv0 [.int (nI x), .int (nI bs), .ref b] (xB h b (xup2 (xup2 K 5 c (nI s)) 6 c (nI bs))) Q := by
    intro x lv0 hx hlv
    refine aw_lv hlv ?_
    refine nX11_comes_37 ?_
    refine tX11_comes_38 hS ?_
    refine sX11_comes_41 rfl ?_
    refine tX11_comes_42 hS ?_
    refine sX11_comes_45 rfl ?_
    refine tX11_comes_46 hS ?_
    rw [xup2_n (by decide), xup2_r (by decide), xup2_r (by decide), h42]
    refine sX11_comes_49 rfl ?_
    refine sX11_comes_50 rfl ?_
    refine nX11_comes_51 (by omega) ?_
    rw [show e - d - (a - d) = e - a by omega]
    refine tX11_comes_52 hS (by decide) (by decide) rfl (show c < 210 by omega) ?_
    refine name _ _ (fun r a1 a2 => by rw [xup2_r (by omega), xup2_r a1, xup2_r (by omega), xup2_r (by omega)]) (fun r a1 i a2 => ?_) (by rw [xup2_r (by decide), xup2_r (by decide), xup2_r (by decide), xup2_r (by decide)]) (by rw [xup2_r (by decide), xup2_r (by decide), xup2_r (by decide), xup2_r (by decide)]) (fun j hj => by rw [xup2_r (by decide), xup2_n hj, xup2_r (by decide), xup2_r (by decide)]) ?_ ?_ xup2_s ?_ (fun z hz => by simp only [List.mem_cons, List.not_mem_nil, or_false] at hz; rcases hz with rfl | rfl | rfl | rfl | rfl <;> exact xlk_mem rfl)
    · have up1 : ∀ (K : Nat → Nat → Int32) (r i r' j : Nat) (v : Int32), j ≠ i → xup2 K r i v r' j = K r' j := fun K r i r' j v hj => by
        unfold xup2; rw [if_neg hj]; split <;> rfl
      rw [up1 _ _ _ _ _ _ a2, xup2_r (by omega), up1 _ _ _ _ _ _ a2, up1 _ _ _ _ _ _ a2]
    · rw [xup2_r (by decide), xup2_r (by decide), xup2_r (by decide), xup2_s]
    · rw [xup2_r (by decide), xup2_r (by decide), xup2_s]
    · rw [xup2_r (by decide), xup2_s, hx]
  refine sX11_comes_28 rfl ?_
  refine nX11_comes_29 (by omega) (fun z => ?_) (fun z => ?_)
  · refine nX11_comes_36 ?_
    exact last 0 _ (by rw [if_neg z]) (fun z hz => by simp only [List.mem_cons, List.not_mem_nil, or_false] at hz; rcases hz with rfl | rfl | rfl | rfl | rfl <;> exact xlk_mem rfl)
  · refine nX11_comes_32 ?_
    refine sX11_comes_33 ?_
    exact last 1 _ (by rw [if_pos z]) (fun z hz => by simp only [List.mem_cons, List.not_mem_nil, or_false] at hz; rcases hz with rfl | rfl | rfl | rfl | rfl <;> exact xlk_mem rfl)
end RLine
