/-! ===== the class's Book: ends, search, growth ===== -/
def nb (so : Nat → Nat) : Nat → Nat
  | 0 => 0
  | c + 1 => nb so c + (if so c = 0 then 1 else 0)
theorem nb_le (so : Nat → Nat) : ∀ c, nb so c ≤ c
  | 0 => Nat.le_refl _
  | c + 1 => by have := nb_le so c; show nb so c + _ ≤ c + 1; split <;> omega
/-- where a byte comes first -/
def utl (T : Nat → Nat) (a m x : Nat) : Nat := rnd (fun y => !decide (y = x)) T m a
section Book1
variable {g : xG} {l : Launch} {h : xH} {J : Nat → Nat → Int32} {Q : Option Value → xH → Prop} {so ln np : Nat → Nat} {nm : Nat → Nat → Nat} {T : Nat → Nat} {c w : Nat}
theorem c_textEnd {e : Nat} (hW : CW h w) (h9 : J w 9 = nI c) (hc : c ≤ 100) (he : (c = 0 → e = 0) ∧ (0 < c → J (w + 12) (c - 1) = nI e)) (k : Q (some (.int (nI e))) (xJ h J)) : ac g l mX1_textEnd [.ref w] (xJ h J) Q := by
  refine ac_of (by decide) (Nat.le_of_ble_eq_true rfl) ?_
  obtain ⟨t1, ⟨p0, p1, p2, p3, p4, p5, p6, p7, p8⟩, -, ⟨-, -, -, -, -, -, t12⟩, -⟩ := hW
  refine sX1_textEnd_0 rfl ?_
  refine jX1_textEnd_1 (by assumption) ?_
  rw [h9]
  refine nX1_textEnd_4 (by omega) (fun z => ?_) (fun z => ?_)
  · refine nX1_textEnd_21 ?_
    rw [he.1 z] at k
    exact sX1_textEnd_22 k
  · refine sX1_textEnd_7 rfl ?_
    refine jX1_textEnd_8 (by assumption) (by assumption) ?_
    refine sX1_textEnd_11 rfl ?_
    refine jX1_textEnd_12 (by assumption) ?_
    rw [h9]
    refine nX1_textEnd_15 ?_
    refine nX1_textEnd_16 (by omega) ?_
    refine jX1_textEnd_17 (by assumption) (by omega) (by omega) ?_
    rw [he.2 z]
    refine sX1_textEnd_18 ?_
    exact sX1_textEnd_22 k
theorem c_codeEnd {e : Nat} (hW : CW h w) (h9 : J w 9 = nI c) (hc : c ≤ 100) (he : (c = 0 → e = 0) ∧ (0 < c → J (w + 11) (c - 1) = nI e)) (k : Q (some (.int (nI e))) (xJ h J)) : ac g l mX1_codeEnd [.ref w] (xJ h J) Q := by
  refine ac_of (by decide) (Nat.le_of_ble_eq_true rfl) ?_
  obtain ⟨t1, ⟨p0, p1, p2, p3, p4, p5, p6, p7, p8⟩, -, ⟨-, -, -, -, -, t11, -⟩, -⟩ := hW
  refine sX1_codeEnd_0 rfl ?_
  refine jX1_codeEnd_1 (by assumption) ?_
  rw [h9]
  refine nX1_codeEnd_4 (by omega) (fun z => ?_) (fun z => ?_)
  · refine nX1_codeEnd_21 ?_
    rw [he.1 z] at k
    exact sX1_codeEnd_22 k
  · refine sX1_codeEnd_7 rfl ?_
    refine jX1_codeEnd_8 (by assumption) (by assumption) ?_
    refine sX1_codeEnd_11 rfl ?_
    refine jX1_codeEnd_12 (by assumption) ?_
    rw [h9]
    refine nX1_codeEnd_15 ?_
    refine nX1_codeEnd_16 (by omega) ?_
    refine jX1_codeEnd_17 (by assumption) (by omega) (by omega) ?_
    rw [he.2 z]
    refine sX1_codeEnd_18 ?_
    exact sX1_codeEnd_22 k
theorem c_textUntil {a m x : Nat} (hW : CW h w) (hT : WT J w T) (hm : m ≤ 10240) (hx : x < 128) (ha : a ≤ 20000) (k : Q (some (.int (nI (utl T a m x)))) (xJ h J)) : ac g l mX1_textUntil [.ref w, .int (nI a), .int (nI m), .int (nI x)] (xJ h J) Q := by
  refine ac_of (by decide) (Nat.le_of_ble_eq_true rfl) ?_
  have t1 := hW.1
  refine sX1_textUntil_0 rfl ?_
  refine sX1_textUntil_1 ?_
  have fin : ∀ (p : Nat) (lv0 : List (Nat × Value)), p = utl T a m x → (∀ z ∈ ([(4, .int (nI p))] : List (Nat × Value)), z ∈ lv0) → aw g l mX1_textUntil 25 lv0 [] (xJ h J) Q := fun p lv0 e hlv => by
    refine aw_lv hlv ?_
    rw [← e] at k
    refine sX1_textUntil_25 rfl ?_
    exact sX1_textUntil_27 k
  suffices H : ∀ f p lv0, m - p ≤ f → p ≤ 20000 → rnd (fun y => !decide (y = x)) T m p = utl T a m x → (∀ z ∈ ([(0, .ref w), (2, .int (nI m)), (3, .int (nI x)), (4, .int (nI p))] : List (Nat × Value)), z ∈ lv0) → aw g l mX1_textUntil 3 lv0 [] (xJ h J) Q from H (m - a) a _ (Nat.le_refl _) ha rfl (fun z hz => by simp only [List.mem_cons, List.not_mem_nil, or_false] at hz; rcases hz with rfl | rfl | rfl | rfl <;> exact xlk_mem rfl)
  intro f
  induction f with
  | zero =>
    intro p lv0 hf hp hr hlv
    refine aw_lv hlv ?_
    refine sX1_textUntil_3 rfl ?_
    refine sX1_textUntil_5 rfl ?_
    refine nX1_textUntil_6 (by omega) (by omega) (fun z => fin p _ (by rw [← hr, rnd_stop (Or.inr z)]) (fun z hz => by simp only [List.mem_cons, List.not_mem_nil, or_false] at hz; rcases hz with rfl <;> exact xlk_mem rfl)) (fun z => absurd z (by omega))
  | succ f ih =>
    intro p lv0 hf hp hr hlv
    refine aw_lv hlv ?_
    refine sX1_textUntil_3 rfl ?_
    refine sX1_textUntil_5 rfl ?_
    refine nX1_textUntil_6 (by omega) (by omega) (fun z => fin p _ (by rw [← hr, rnd_stop (Or.inr z)]) (fun z hz => by simp only [List.mem_cons, List.not_mem_nil, or_false] at hz; rcases hz with rfl <;> exact xlk_mem rfl)) (fun z => ?_)
    refine sX1_textUntil_9 rfl ?_
    refine sX1_textUntil_10 rfl ?_
    refine jX1_textUntil_12 (Nat.le_of_ble_eq_true rfl) (by assumption) ?_
    refine c_byteAt1 hW hT (by omega) ?_
    refine sX1_textUntil_15 rfl ?_
    refine sX1_textUntil_16 (fun y => ?_) (fun y => ?_)
    · rw [sb_eq (hT p (by omega)).2 hx] at y
      refine fin p _ ?_ (fun z hz => by simp only [List.mem_cons, List.not_mem_nil, or_false] at hz; rcases hz with rfl <;> exact xlk_mem rfl)
      rw [← hr, rnd_stop (Or.inl (by rw [y]; simp))]
    · rw [sb_eq (hT p (by omega)).2 hx] at y
      refine nX1_textUntil_19 rfl ?_
      refine sX1_textUntil_22 ?_
      refine ih (p + 1) _ (by omega) (by omega) ?_ (fun z hz => by simp only [List.mem_cons, List.not_mem_nil, or_false] at hz; rcases hz with rfl | rfl | rfl | rfl <;> exact xlk_mem rfl)
      exact (rnd_step (q := p) z (by simpa using y)).symm.trans hr
theorem c_resize {n : Nat} (hW : CW h w) (hn : n ≤ 100) (hs : ∀ i, i < n → J (w + 6) i = nI (so i) ∧ so i ≤ 2) (k : ∀ J', (∀ r, r ≠ w → J' r = J r) → (∀ j, j ≠ 9 → j ≠ 10 → J' w j = J w j) → J' w 9 = nI n → J' w 10 = nI (nb so n) → Q none (xJ h J')) : ac g l mX1_resize [.ref w, .int (nI n)] (xJ h J) Q := by
  refine ac_of (by decide) (Nat.le_of_ble_eq_true rfl) ?_
  obtain ⟨t1, ⟨p0, p1, p2, -⟩, -, ⟨t6, -⟩, -⟩ := hW
  refine sX1_resize_0 rfl ?_
  refine nX1_resize_1 ?_
  refine sX1_resize_2 rfl ?_
  refine nX1_resize_3 ?_
  refine mX1_resize_5n (Nat.le_of_ble_eq_true rfl) (by omega) (by omega) ?_
  rw [Nat.min_eq_left hn]
  refine mX1_resize_8n (Nat.le_of_ble_eq_true rfl) (by omega) (by omega) ?_
  rw [Nat.max_eq_right (Nat.zero_le _)]
  refine jX1_resize_11 (by assumption) ?_
  refine sX1_resize_14 rfl ?_
  refine nX1_resize_15 ?_
  refine jX1_resize_16 (by assumption) ?_
  refine nX1_resize_19 ?_
  refine sX1_resize_20 ?_
  suffices H : ∀ f i (J1 : Nat → Nat → Int32) (lv0 : List (Nat × Value)), i + f = n → (∀ r, r ≠ w → J1 r = J r) → (∀ j, j ≠ 9 → j ≠ 10 → J1 w j = J w j) → J1 w 9 = nI n → J1 w 10 = nI (nb so i) → (∀ z ∈ ([(0, .ref w), (2, .int (nI i))] : List (Nat × Value)), z ∈ lv0) → aw g l mX1_resize 21 lv0 [] (xJ h J1) Q from H n 0 _ _ (by omega) (fun r hr => by rw [xup2_r hr, xup2_r hr]) (fun j a1 a2 => by rw [xup2_n a2, xup2_n a1]) (by rw [xup2_n (by decide), xup2_s]) xup2_s (fun z hz => by simp only [List.mem_cons, List.not_mem_nil, or_false] at hz; rcases hz with rfl | rfl <;> exact xlk_mem rfl)
  intro f
  induction f with
  | zero =>
    intro i J1 lv0 hi o1 o2 e9 e10 hlv
    refine aw_lv hlv ?_
    refine sX1_resize_21 rfl ?_
    refine sX1_resize_22 rfl ?_
    refine jX1_resize_23 (by assumption) ?_
    rw [e9]
    refine nX1_resize_26 (by omega) (by omega) (fun _ => ?_) (fun z => absurd z (by omega))
    exact sX1_resize_58 (k J1 o1 o2 e9 (by rw [e10, show i = n by omega]))
  | succ f ih =>
    intro i J1 lv0 hi o1 o2 e9 e10 hlv
    refine aw_lv hlv ?_
    obtain ⟨s1, s2⟩ := hs i (by omega)
    have nle := nb_le so i
    have last : ∀ (d : Nat) (lv1 : List (Nat × Value)), d = (if so i = 0 then 1 else 0) → (∀ z ∈ ([(0, .ref w), (2, .int (nI i))] : List (Nat × Value)), z ∈ lv1) → aw g l mX1_resize 48 lv1 [.int (nI d), .int (nI (nb so i)), .ref w] (xJ h J1) Q := by
      intro d lv1 hd hlv1
      refine aw_lv hlv1 ?_
      refine nX1_resize_48 ?_
      refine jX1_resize_49 (by assumption) ?_
      refine nX1_resize_52 rfl ?_
      refine sX1_resize_55 ?_
      refine ih (i + 1) _ _ (by omega) (fun r hr => by rw [xup2_r hr]; exact o1 r hr) (fun j a1 a2 => by rw [xup2_n a2]; exact o2 j a1 a2) (by rw [xup2_n (by decide)]; exact e9) ?_ (fun z hz => by simp only [List.mem_cons, List.not_mem_nil, or_false] at hz; rcases hz with rfl | rfl <;> exact xlk_mem rfl)
      rw [xup2_s, hd]; rfl
    refine sX1_resize_21 rfl ?_
    refine sX1_resize_22 rfl ?_
    refine jX1_resize_23 (by assumption) ?_
    rw [e9]
    refine nX1_resize_26 (by omega) (by omega) (fun z => absurd z (by omega)) (fun _ => ?_)
    refine sX1_resize_29 rfl ?_
    refine sX1_resize_30 rfl ?_
    refine jX1_resize_31 (by assumption) ?_
    rw [e10]
    refine sX1_resize_34 rfl ?_
    refine jX1_resize_35 (by assumption) (by assumption) ?_
    refine sX1_resize_38 rfl ?_
    refine jX1_resize_39 (by assumption) (by omega) (by omega) ?_
    rw [o1 _ (by omega), s1]
    refine nX1_resize_40 (by omega) (fun z => ?_) (fun z => ?_)
    · refine nX1_resize_47 ?_
      exact last 0 _ (by rw [if_neg z]) (fun z hz => by simp only [List.mem_cons, List.not_mem_nil, or_false] at hz; rcases hz with rfl | rfl <;> exact xlk_mem rfl)
    · refine nX1_resize_43 ?_
      refine sX1_resize_44 ?_
      exact last 1 _ (by rw [if_pos z]) (fun z hz => by simp only [List.mem_cons, List.not_mem_nil, or_false] at hz; rcases hz with rfl | rfl <;> exact xlk_mem rfl)
theorem c_objection {s a n nbs : Nat} (hW : CW h w) (hT : WT J w T) (hN : WN J w so ln np nm T c) (hs : s ≤ 2) (ha : a + n ≤ 10240) (hb : J w 10 = nI nbs) (hb2 : nbs ≤ 100) (k2 : fd (pG so ln nm (decide (s = 2)) T a n) 0 c ≠ none → Q (some (.int (nI 2))) (xJ h J)) (k3 : fd (pG so ln nm (decide (s = 2)) T a n) 0 c = none → (100 ≤ c ∨ s = 0 ∧ 8 ≤ nbs) → Q (some (.int (nI 3))) (xJ h J)) (k0 : fd (pG so ln nm (decide (s = 2)) T a n) 0 c = none → ¬ (100 ≤ c ∨ s = 0 ∧ 8 ≤ nbs) → Q (some (.int (nI 0))) (xJ h J)) : ac g l mX1_objection [.ref w, .int (nI s), .int (nI a), .int (nI n)] (xJ h J) Q := by
  refine ac_of (by decide) (Nat.le_of_ble_eq_true rfl) ?_
  have t1 := hW.1
  have hc := hN.2.1
  have h9 := hN.1
  have fin : ∀ (t : Int32) (lv0 : List (Nat × Value)), fd (pG so ln nm (decide (s = 2)) T a n) 0 c = none → (t = 1 ∧ s = 0 ∧ 8 ≤ nbs ∨ t = 0 ∧ ¬ (s = 0 ∧ 8 ≤ nbs)) → (∀ z ∈ ([(0, .ref w)] : List (Nat × Value)), z ∈ lv0) → aw g l mX1_objection 40 lv0 [.int t] (xJ h J) Q := by
    intro t lv0 hf ht hlv
    refine aw_lv hlv ?_
    have much : (100 ≤ c ∨ s = 0 ∧ 8 ≤ nbs) → aw g l mX1_objection 56 [(0, .ref w), (4, .int t)] [] (xJ h J) Q := fun z => by
      refine nX1_objection_56 ?_
      refine sX1_objection_57 ?_
      exact sX1_objection_61 (k3 hf z)
    refine sX1_objection_40 ?_
    refine sX1_objection_42 rfl ?_
    refine jX1_objection_43 (by assumption) ?_
    rw [h9]
    refine nX1_objection_46 ?_
    refine nX1_objection_48 (by omega) (by omega) (fun z => aw_lv (fun z hz => by simp only [List.mem_cons, List.not_mem_nil, or_false] at hz; rcases hz with rfl | rfl <;> exact xlk_mem rfl) (much (Or.inl z))) (fun z => ?_)
    refine sX1_objection_51 rfl ?_
    rcases ht with ⟨rfl, y⟩ | ⟨rfl, y⟩
    · exact sX1_objection_53 (fun u => absurd u (by decide)) (fun _ => aw_lv (fun z hz => by simp only [List.mem_cons, List.not_mem_nil, or_false] at hz; rcases hz with rfl | rfl <;> exact xlk_mem rfl) (much (Or.inr y)))
    · refine sX1_objection_53 (fun _ => ?_) (fun u => absurd rfl u)
      refine nX1_objection_60 ?_
      exact sX1_objection_61 (k0 hf (by omega))
  have mid : ∀ lv0 : List (Nat × Value), (∀ z ∈ ([(0, .ref w), (1, .int (nI s))] : List (Nat × Value)), z ∈ lv0) → aw g l mX1_objection 16 lv0 [.int (oI (fd (pG so ln nm (decide (s = 2)) T a n) 0 c))] (xJ h J) Q := by
    intro lv0 hlv
    refine aw_lv hlv ?_
    refine sX1_objection_16 ?_
    cases e : fd (pG so ln nm (decide (s = 2)) T a n) 0 c with
    | some i =>
      obtain ⟨-, z2, -⟩ := fd_some e
      refine sX1_objection_17 (fun z => absurd z (oI_neg (by omega))) (fun _ => ?_)
      refine nX1_objection_20 ?_
      exact sX1_objection_21 (k2 (by rw [e]; intro z; cases z))
    | none =>
      refine sX1_objection_17 (fun _ => ?_) (fun z => absurd rfl z)
      refine sX1_objection_22 rfl ?_
      refine nX1_objection_23 (by omega) (fun z => ?_) (fun z => ?_)
      · refine sX1_objection_39 ?_
        exact fin 0 _ e (Or.inr ⟨rfl, fun y => z y.1⟩) (fun z hz => by simp only [List.mem_cons, List.not_mem_nil, or_false] at hz; rcases hz with rfl <;> exact xlk_mem rfl)
      · refine sX1_objection_26 rfl ?_
        refine jX1_objection_27 (by assumption) ?_
        rw [hb]
        refine nX1_objection_30 ?_
        refine nX1_objection_32 (by omega) (by omega) (fun y => ?_) (fun y => ?_)
        · refine sX1_objection_39 ?_
          exact fin 0 _ e (Or.inr ⟨rfl, by omega⟩) (fun z hz => by simp only [List.mem_cons, List.not_mem_nil, or_false] at hz; rcases hz with rfl <;> exact xlk_mem rfl)
        · refine sX1_objection_35 ?_
          refine sX1_objection_36 ?_
          exact fin 1 _ e (Or.inl ⟨rfl, z, y⟩) (fun z hz => by simp only [List.mem_cons, List.not_mem_nil, or_false] at hz; rcases hz with rfl <;> exact xlk_mem rfl)
  refine sX1_objection_0 rfl ?_
  refine sX1_objection_1 rfl ?_
  refine sX1_objection_2 rfl ?_
  refine sX1_objection_3 rfl ?_
  refine nX1_objection_4 ?_
  refine nX1_objection_5 (by omega) (by omega) (fun z => ?_) (fun z => ?_)
  · refine sX1_objection_12 ?_
    refine jX1_objection_13 (Nat.le_of_ble_eq_true rfl) (by assumption) ?_
    refine c_find (pf := decide (s = 2)) hW hT hN ha (by rw [if_neg (by simpa using z)]) ?_
    exact mid _ (fun z hz => by simp only [List.mem_cons, List.not_mem_nil, or_false] at hz; rcases hz with rfl | rfl <;> exact xlk_mem rfl)
  · refine sX1_objection_8 ?_
    refine sX1_objection_9 ?_
    refine jX1_objection_13 (Nat.le_of_ble_eq_true rfl) (by assumption) ?_
    refine c_find (pf := decide (s = 2)) hW hT hN ha (by rw [if_pos (by simpa using z)]) ?_
    exact mid _ (fun z hz => by simp only [List.mem_cons, List.not_mem_nil, or_false] at hz; rcases hz with rfl | rfl <;> exact xlk_mem rfl)
end Book1
