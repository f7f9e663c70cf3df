section RSettle2
variable {g : xG} {l : Launch} {h : xH} {b : Nat} {K : Nat → Nat → Int32} {N : Nat → Nat} {S : Nat → Vl} {Q : Option Value → xH → Prop} {c B : Nat} {so ln bn tf tt dd : Nat → Nat} {nm : Nat → Nat → Nat} {Lk : Nat → List St} {Ck : Nat → Nat → Nat} {mk ek : Nat → Nat} {mg : Nat → Nat → Nat → Option Nat × Option Nat} {bv : Nat → Vl}
theorem c_rsettle (hmg : ∀ k, mg k = mng so ln nm c (Ck k)) (hbv : bv = bvO bn) (hS : RS h b) (hX : RX K N S) (hD : RD K c so ln nm bn tf tt dd Lk Ck mk ek) (hB : K 0 0 = nI B) (hB0 : 16 ≤ B) (hB2 : B ≤ 512)
    (kA : ∀ K' N' S' (E : Nat → Option (Nat × Vl)), fG K K' → RX K' N' S' → (∀ k, k < c → ∃ r, E k = some r ∧ K' 12 k = nI r.1 ∧ r.1 < 100 ∧ r.1 ≠ 4 ∧ K' 13 k = nI 1 ∧ (r.1 = 0 → S' (68 + k) = r.2 ∧ vWf r.2) ∧ ∃ f, dn B c so bv Lk Ck mk mg f k = some r) → S' 65 = S 65 → S' 67 = S 67 → Q (some (.int (-1))) (xB h b K'))
    (kB : ∀ K' N' S' j, fG K K' → RX K' N' S' → j < c → ¬ fin B c so bv Lk Ck mk mg j → (∀ i, i < j → fin B c so bv Lk Ck mk mg i) → S' 65 = S 65 → S' 67 = S 67 → Q (some (.int (nI j))) (xB h b K')) : ac g l mX11_settle [.ref b, .int (nI c)] (xB h b K) Q := by
  refine ac_of (by decide) (Nat.le_of_ble_eq_true rfl) ?_
  have hc := hD.1
  -- the second loop
  have two : ∀ (f i : Nat) (o : Option Nat) (E : Nat → Option (Nat × Vl)) (M : Nat → Nat) (K1 : Nat → Nat → Int32) (N1 : Nat → Nat) (S1 : Nat → Vl) (lv0 : List (Nat × Value)), i + f = c → fG K K1 → K1 0 27 = 1 → K1 0 20 = 1 → K1 0 28 = nI c → RX K1 N1 S1 → KS B c so bv Lk Ck mk mg K1 S1 E M → S1 65 = S 65 → S1 67 = S 67 → (∀ q, q < i → M q ≠ 0) → (o = none → ∀ q, q < i → M q ≠ 2) → (∀ j, o = some j → j < i ∧ M j = 2 ∧ ∀ q, q < j → M q ≠ 2) → (∀ z ∈ ([(0, .ref b), (1, .int (nI c)), (2, .int (oI o)), (3, .int (nI i))] : List (Nat × Value)), z ∈ lv0) → aw g l mX11_settle 99 lv0 [] (xB h b K1) Q := by
    intro f
    induction f with
    | zero =>
      intro i o E M K1 N1 S1 lv0 hi fg k27 k20 k28 hX1 hK1 s65 s67 hM ho1 ho2 hlv
      refine aw_lv hlv ?_
      have all1 : ∀ q, q < c → M q ≠ 2 → ∃ r, E q = some r := fun q hq h2 => by
        obtain ⟨p1, p2, p3, p4, -⟩ := hK1 q hq
        have := hM q (by omega)
        cases e : E q with
        | none => have := p4 e; omega
        | some r => exact ⟨r, rfl⟩
      refine sX11_settle_99 rfl ?_
      refine sX11_settle_100 rfl ?_
      refine nX11_settle_101 (by omega) (by omega) (fun _ => ?_) (fun z => absurd z (by omega))
      refine sX11_settle_140 rfl ?_
      cases o with
      | none =>
        refine sX11_settle_141 (kA K1 N1 S1 E fg hX1 (fun q hq => ?_) s65 s67)
        obtain ⟨r, er⟩ := all1 q hq (ho1 rfl q (by omega))
        obtain ⟨p1, p2, p3, p4, p5, p6⟩ := hK1 q hq
        obtain ⟨u1, u2, u3, u4, u5, u6⟩ := p6 r er
        exact ⟨r, er, u2, u3, u4, by rw [p1, u1], u5, u6⟩
      | some j =>
        obtain ⟨j1, j2, j3⟩ := ho2 j rfl
        refine sX11_settle_141 (kB K1 N1 S1 j fg hX1 (by omega) ((hK1 j (by omega)).2.2.2.2.1 j2) (fun q hq => ?_) s65 s67)
        obtain ⟨r, er⟩ := all1 q (by omega) (j3 q hq)
        obtain ⟨f, hf⟩ := ((hK1 q (by omega)).2.2.2.2.2 r er).2.2.2.2.2
        exact ⟨f, r, hf⟩
    | succ f ih =>
      intro i o E M K1 N1 S1 lv0 hi fg k27 k20 k28 hX1 hK1 s65 s67 hM ho1 ho2 hlv
      refine aw_lv hlv ?_
      have obound : ∀ j, o = some j → j < 100 := fun j e => by have := (ho2 j e).1; omega
      -- behind follow
      have tail : ∀ (E : Nat → Option (Nat × Vl)) (M' : Nat → Nat) (K2 : Nat → Nat → Int32) (N2 : Nat → Nat) (S2 : Nat → Vl) (lv1 : List (Nat × Value)), fG K K2 → K2 0 27 = 1 → K2 0 20 = 1 → K2 0 28 = nI c → RX K2 N2 S2 → KS B c so bv Lk Ck mk mg K2 S2 E M' → S2 65 = S 65 → S2 67 = S 67 → M' i ≠ 0 → (∀ q, q < c → M q ≠ 0 → M' q = M q) → (∀ z ∈ ([(0, .ref b), (1, .int (nI c)), (2, .int (oI o)), (3, .int (nI i))] : List (Nat × Value)), z ∈ lv1) → aw g l mX11_settle 118 lv1 [] (xB h b K2) Q := by
        intro E M' K2 N2 S2 lv1 fg2 k27' k20' k28' hX2 hK2 s65' s67' hMi hMM hlv1
        refine aw_lv hlv1 ?_
        obtain ⟨p1, p2, -⟩ := hK2 i (by omega)
        have hM2 : ∀ q, q < i → M' q = M q := fun q hq => hMM q (by omega) (hM q hq)
        have next : ∀ (o' : Option Nat) (lv2 : List (Nat × Value)), (o' = none → ∀ q, q < i + 1 → M' q ≠ 2) → (∀ j, o' = some j → j < i + 1 ∧ M' j = 2 ∧ ∀ q, q < j → M' q ≠ 2) → (∀ z ∈ ([(0, .ref b), (1, .int (nI c)), (2, .int (oI o')), (3, .int (nI i))] : List (Nat × Value)), z ∈ lv2) → aw g l mX11_settle 134 lv2 [] (xB h b K2) Q := by
          intro o' lv2 h1' h2' hlv2
          refine aw_lv hlv2 ?_
          refine nX11_settle_134 rfl ?_
          refine sX11_settle_137 ?_
          refine ih (i + 1) o' E M' K2 N2 S2 _ (by omega) fg2 k27' k20' k28' hX2 hK2 s65' s67' (fun q hq => ?_) h1' h2' (fun z hz => by simp only [List.mem_cons, List.not_mem_nil, or_false] at hz; rcases hz with rfl | rfl | rfl | rfl <;> exact xlk_mem rfl)
          rcases Nat.eq_or_lt_of_le (Nat.le_of_lt_succ hq) with e | e
          · rw [e]; exact hMi
          · rw [hM2 q e]; exact hM q e
        refine sX11_settle_118 rfl ?_
        refine tX11_settle_119 hS ?_
        refine sX11_settle_122 rfl ?_
        refine tX11_settle_123 hS (by decide) (by decide) rfl (by simp only [rl]; omega) ?_
        rw [p1]
        refine nX11_settle_124 ?_
        refine nX11_settle_125 (by omega) (by decide) (fun z => ?_) (fun z => ?_)
        · refine next o _ (fun eo q hq => ?_) (fun j ej => ?_) (fun z hz => by simp only [List.mem_cons, List.not_mem_nil, or_false] at hz; rcases hz with rfl | rfl | rfl | rfl <;> exact xlk_mem rfl)
          · rcases Nat.eq_or_lt_of_le (Nat.le_of_lt_succ hq) with e | e
            · rw [e]; exact z
            · rw [hM2 q e]; exact ho1 eo q e
          · obtain ⟨j1, j2, j3⟩ := ho2 j ej
            exact ⟨by omega, by rw [hM2 j j1]; exact j2, fun q hq => by rw [hM2 q (by omega)]; exact j3 q hq⟩
        · refine sX11_settle_128 rfl ?_
          cases o with
          | none =>
            refine sX11_settle_129 (fun y => absurd y (by decide)) (fun _ => ?_)
            refine sX11_settle_132 rfl ?_
            refine sX11_settle_133 ?_
            refine next (some i) _ (fun y => by cases y) (fun j ej => ?_) (fun z hz => by simp only [List.mem_cons, List.not_mem_nil, or_false] at hz; rcases hz with rfl | rfl | rfl | rfl <;> exact xlk_mem rfl)
            have := Option.some.inj ej
            subst this
            exact ⟨by omega, z, fun q hq => by rw [hM2 q hq]; exact ho1 rfl q hq⟩
          | some j =>
            have := obound j rfl
            refine sX11_settle_129 (fun _ => ?_) (fun y => absurd (oI_ge (by omega)) y)
            refine next (some j) _ (fun y => by cases y) (fun j' ej => ?_) (fun z hz => by simp only [List.mem_cons, List.not_mem_nil, or_false] at hz; rcases hz with rfl | rfl | rfl | rfl <;> exact xlk_mem rfl)
            have := Option.some.inj ej
            subst this
            obtain ⟨j1, j2, j3⟩ := ho2 j rfl
            exact ⟨by omega, by rw [hM2 j j1]; exact j2, fun q hq => by rw [hM2 q (by omega)]; exact j3 q hq⟩
      obtain ⟨p1, p2, -⟩ := hK1 i (by omega)
      refine sX11_settle_99 rfl ?_
      refine sX11_settle_100 rfl ?_
      refine nX11_settle_101 (by omega) (by omega) (fun z => absurd z (by omega)) (fun _ => ?_)
      refine sX11_settle_104 rfl ?_
      refine tX11_settle_105 hS ?_
      refine sX11_settle_108 rfl ?_
      refine tX11_settle_109 hS (by decide) (by decide) rfl (by simp only [rl]; omega) ?_
      rw [p1]
      refine nX11_settle_110 (by omega) (fun z => ?_) (fun z => ?_)
      · exact tail E M K1 N1 S1 _ fg k27 k20 k28 hX1 hK1 s65 s67 z (fun _ _ _ => rfl) (fun z hz => by simp only [List.mem_cons, List.not_mem_nil, or_false] at hz; rcases hz with rfl | rfl | rfl | rfl <;> exact xlk_mem rfl)
      · refine sX11_settle_113 rfl ?_
        refine sX11_settle_114 rfl ?_
        refine tX11_settle_115 hS (Nat.le_of_ble_eq_true rfl) ?_
        refine c_follow hmg hS hX1 (RD_c fg hD) hK1 (by rw [fg.2 0 (by decide)]; exact hB) hB0 hB2 k27 k20 k28 (by omega) z (fun K2 N2 S2 E2 M2 f2 ff2 hX2 hK2 hMi hMM a65 a67 => ?_)
        exact tail E2 M2 K2 N2 S2 _ (fG_t fg f2) (by rw [ff2 27 (by decide)]; exact k27) (by rw [ff2 20 (by decide)]; exact k20) (by rw [ff2 28 (by decide)]; exact k28) hX2 hK2 (a65.trans s65) (a67.trans s67) hMi hMM (fun z hz => by simp only [List.mem_cons, List.not_mem_nil, or_false] at hz; rcases hz with rfl | rfl | rfl | rfl <;> exact xlk_mem rfl)
  -- the first loop
  refine sX11_settle_0 rfl ?_
  refine sX11_settle_1 rfl ?_
  refine tX11_settle_2 hS ?_
  refine sX11_settle_5 rfl ?_
  refine sX11_settle_6 ?_
  refine tX11_settle_7 hS (by first | decide | assumption) ?_
  refine sX11_settle_10 rfl ?_
  refine sX11_settle_11 ?_
  refine tX11_settle_12 hS (by first | decide | assumption) ?_
  refine nX11_settle_15 ?_
  refine sX11_settle_16 ?_
  generalize hK0 : xup2 (xup2 (xup2 K 0 28 (nI c)) 0 27 1) 0 20 1 = K0
  have g0 : fG K K0 := by rw [← hK0]; exact fG_t (fG_t (fG_0 (by decide)) (fG_0 (by decide))) (fG_0 (by decide))
  have x0 : RX K0 N S := by rw [← hK0]; exact RX_row0 (RX_row0 (RX_row0 hX))
  have a27 : K0 0 27 = 1 := by rw [← hK0, xup2_n (by decide), xup2_s]
  have a20 : K0 0 20 = 1 := by rw [← hK0, xup2_s]
  have a28 : K0 0 28 = nI c := by rw [← hK0, xup2_n (by decide), xup2_n (by decide), xup2_s]
  suffices H : ∀ (f i : Nat) (K1 : Nat → Nat → Int32) (N1 : Nat → Nat) (S1 : Nat → Vl) (lv0 : List (Nat × Value)), i + f = c → fG K0 K1 → K1 0 = K0 0 → RX K1 N1 S1 → (∀ w, w < 68 → S1 w = S w) → (∀ k, k < i → K1 13 k = nI (if so k = 0 then 1 else 0) ∧ K1 12 k = nI 0 ∧ (so k = 0 → S1 (68 + k) = bvO bn k)) → (∀ z ∈ ([(0, .ref b), (1, .int (nI c)), (2, .int (nI i))] : List (Nat × Value)), z ∈ lv0) → aw g l mX11_settle 17 lv0 [] (xB h b K1) Q from H c 0 K0 N S _ (by omega) (fG_r K0) rfl x0 (fun _ _ => rfl) (fun k hk => by omega) (fun z hz => by simp only [List.mem_cons, List.not_mem_nil, or_false] at hz; rcases hz with rfl | rfl | rfl <;> exact xlk_mem rfl)
  intro f
  induction f with
  | zero =>
    intro i K1 N1 S1 lv0 hi fg e0 hX1 sS hk hlv
    refine aw_lv hlv ?_
    refine sX11_settle_17 rfl ?_
    refine sX11_settle_18 rfl ?_
    refine nX11_settle_19 (by omega) (by omega) (fun _ => ?_) (fun z => absurd z (by omega))
    refine sX11_settle_95 ?_
    refine sX11_settle_96 ?_
    refine nX11_settle_97 ?_
    refine sX11_settle_98 ?_
    refine two c 0 none (E0 so bn) (fun k => if so k = 0 then 1 else 0) K1 N1 S1 _ (by omega) (fG_t g0 fg) (by rw [e0]; exact a27) (by rw [e0]; exact a20) (by rw [e0]; exact a28) hX1 (fun k hk' => ?_) (sS 65 (by decide)) (sS 67 (by decide)) (fun q hq => by omega) (fun _ q hq => by omega) (fun j ej => by cases ej) (fun z hz => by simp only [List.mem_cons, List.not_mem_nil, or_false] at hz; rcases hz with rfl | rfl | rfl | rfl <;> exact xlk_mem rfl)
    obtain ⟨k1, k2, k3⟩ := hk k (by omega)
    dsimp only
    by_cases z : so k = 0
    · rw [if_pos z] at k1 ⊢
      have e0' : E0 so bn k = some (0, bvO bn k) := if_pos z
      rw [e0']
      refine ⟨k1, by decide, fun _ y => (by cases y), fun y => (by cases y), fun y => absurd y (by decide), fun r er => ?_⟩
      have := Option.some.inj er
      subst this
      refine ⟨rfl, k2, (show (0 : Nat) < 100 by decide), (show (0 : Nat) ≠ 4 by decide), fun _ => ⟨k3 z, vWf_bv bn k⟩, 0, ?_⟩
      show (if so k = 0 then some (0, bv k) else none) = some (0, bvO bn k)
      rw [if_pos z, hbv]
    · rw [if_neg z] at k1 ⊢
      have e0' : E0 so bn k = none := if_neg z
      rw [e0']
      exact ⟨k1, by decide, fun y => absurd y z, fun _ => by decide, fun y => absurd y (by decide), fun r er => by cases er⟩
  | succ f ih =>
    intro i K1 N1 S1 lv0 hi fg e0 hX1 sS hk hlv
    refine aw_lv hlv ?_
    have fgK := fG_t g0 fg
    obtain ⟨-, dM, -, dD⟩ := RD_c fgK hD
    obtain ⟨b1, b2, -⟩ := dD i (by omega)
    have hso := (dM.2 i (by omega)).1
    have go : ∀ (x : Nat) (lv1 : List (Nat × Value)), (x = if so i = 0 then 1 else 0) → (∀ z ∈ ([(0, .ref b), (1, .int (nI c)), (2, .int (nI i))] : List (Nat × Value)), z ∈ lv1) → aw g l mX11_settle 41 lv1 [.int (nI x), .int (nI i), .ref (b + 13)] (xB h b K1) Q := by
      intro x lv1 hx hlv1
      refine aw_lv hlv1 ?_
      refine tX11_settle_41 hS (by decide) (by decide) rfl (show i < 210 by omega) ?_
      refine sX11_settle_42 rfl ?_
      refine tX11_settle_43 hS ?_
      refine sX11_settle_46 rfl ?_
      refine nX11_settle_47 ?_
      refine tX11_settle_48 hS (by decide) (by decide) rfl (by simp only [rl]; omega) ?_
      refine sX11_settle_49 rfl ?_
      refine tX11_settle_50 hS ?_
      refine sX11_settle_53 rfl ?_
      refine tX11_settle_54 hS (by decide) (by decide) rfl (by simp only [rl]; omega) ?_
      rw [xup2_r (by decide), xup2_r (by decide), hso.1]
      generalize hK2 : xup2 (xup2 K1 13 i (nI x)) 12 i (nI 0) = K2
      have rr : ∀ r, r ≠ 12 → r ≠ 13 → K2 r = K1 r := fun r a1 a2 => by rw [← hK2, xup2_r a1, xup2_r a2]
      have x2 : RX K2 N1 S1 := by rw [← hK2]; exact RX_up (by decide) (by decide) (by decide) (RX_up (by decide) (by decide) (by decide) hX1)
      have g2 : fG K0 K2 := by rw [← hK2]; exact fG_t fg (fG_t (fG_u (by omega)) (fG_u (by omega)))
      have kk : ∀ k, k < i + 1 → K2 13 k = nI (if so k = 0 then 1 else 0) ∧ K2 12 k = nI 0 := fun k hk' => by
        rcases Nat.eq_or_lt_of_le (Nat.le_of_lt_succ hk') with e | e
        · subst e
          exact ⟨by rw [← hK2, xup2_r (by decide), xup2_s, hx], by rw [← hK2, xup2_s]⟩
        · obtain ⟨k1, k2, -⟩ := hk k e
          exact ⟨by rw [← hK2, xup2_r (by decide), xup2_n (by omega)]; exact k1, by rw [← hK2, xup2_n (by omega), xup2_r (by decide)]; exact k2⟩
      refine nX11_settle_55 (by omega) (fun z => ?_) (fun z => ?_)
      · refine sX11_settle_61 rfl ?_
        refine nX11_settle_62 ?_
        refine sX11_settle_64 rfl ?_
        refine nX11_settle_65 ?_
        refine tX11_settle_66 hS (Nat.le_of_ble_eq_true rfl) ?_
        refine c_setOne hS x2 (by omega) (fun K3 N3 o3 x3 => ?_)
        have b1' : K3 6 i = nI (bn i) := by rw [o3 6 (by decide) (by decide) (by decide), rr 6 (by decide) (by decide)]; exact b1
        have b8 := b2 z
        refine sX11_settle_69 rfl ?_
        refine tX11_settle_70 hS ?_
        refine nX11_settle_73 ?_
        refine nX11_settle_75 ?_
        refine sX11_settle_77 rfl ?_
        refine nX11_settle_78 ?_
        refine nX11_settle_79 ?_
        refine sX11_settle_80 rfl ?_
        refine tX11_settle_81 hS ?_
        refine sX11_settle_84 rfl ?_
        refine tX11_settle_85 hS (by decide) (by decide) rfl (show i < 210 by omega) ?_
        rw [b1']
        refine nX11_settle_86 ?_
        refine sX11_settle_87 ?_
        refine tX11_settle_88 hS (by decide) (by decide) rfl (show 8 * (68 + i) + bn i < 1360 by omega) ?_
        refine nX11_settle_89 rfl ?_
        refine sX11_settle_92 ?_
        have x4 := RX_pow (v := 68 + i) (s := 1) x3 b8
        rw [vup_vup, vup_s] at x4
        refine ih (i + 1) _ N3 _ _ (by omega) (fG_t g2 (fG_t (fG_3 o3) (fG_u (by omega)))) (by rw [xup2_r (by decide), o3 0 (by decide) (by decide) (by decide), rr 0 (by decide) (by decide)]; exact e0) x4 (fun w hw => by rw [vup_n (by omega)]; exact sS w hw) (fun k hk' => ?_) (fun z hz => by simp only [List.mem_cons, List.not_mem_nil, or_false] at hz; rcases hz with rfl | rfl | rfl <;> exact xlk_mem rfl)
        obtain ⟨k1, k2⟩ := kk k hk'
        refine ⟨by rw [xup2_r (by decide), o3 13 (by decide) (by decide) (by decide)]; exact k1, by rw [xup2_r (by decide), o3 12 (by decide) (by decide) (by decide)]; exact k2, fun z' => ?_⟩
        rcases Nat.eq_or_lt_of_le (Nat.le_of_lt_succ hk') with e | e
        · subst e; rw [vup_s]; rfl
        · rw [vup_n (by omega)]; exact (hk k e).2.2 z'
      · refine sX11_settle_58 ?_
        refine nX11_settle_89 rfl ?_
        refine sX11_settle_92 ?_
        refine ih (i + 1) K2 N1 S1 _ (by omega) g2 (by rw [rr 0 (by decide) (by decide)]; exact e0) x2 sS (fun k hk' => ?_) (fun z hz => by simp only [List.mem_cons, List.not_mem_nil, or_false] at hz; rcases hz with rfl | rfl | rfl <;> exact xlk_mem rfl)
        obtain ⟨k1, k2⟩ := kk k hk'
        refine ⟨k1, k2, fun z' => ?_⟩
        rcases Nat.eq_or_lt_of_le (Nat.le_of_lt_succ hk') with e | e
        · subst e; exact absurd z' z
        · exact (hk k e).2.2 z'
    refine sX11_settle_17 rfl ?_
    refine sX11_settle_18 rfl ?_
    refine nX11_settle_19 (by omega) (by omega) (fun z => absurd z (by omega)) (fun _ => ?_)
    refine sX11_settle_22 rfl ?_
    refine tX11_settle_23 hS ?_
    refine sX11_settle_26 rfl ?_
    refine sX11_settle_27 rfl ?_
    refine tX11_settle_28 hS ?_
    refine sX11_settle_31 rfl ?_
    refine tX11_settle_32 hS (by decide) (by decide) rfl (by simp only [rl]; omega) ?_
    rw [hso.1]
    refine nX11_settle_33 (by omega) (fun z => ?_) (fun z => ?_)
    · refine nX11_settle_40 ?_
      exact go 0 _ (by rw [if_neg z]) (fun z hz => by simp only [List.mem_cons, List.not_mem_nil, or_false] at hz; rcases hz with rfl | rfl | rfl <;> exact xlk_mem rfl)
    · refine nX11_settle_36 ?_
      refine sX11_settle_37 ?_
      exact go 1 _ (by rw [if_pos z]) (fun z hz => by simp only [List.mem_cons, List.not_mem_nil, or_false] at hz; rcases hz with rfl | rfl | rfl <;> exact xlk_mem rfl)
end RSettle2
