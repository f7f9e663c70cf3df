theorem mmm (a b n : Nat) : a % n * b % n = a * b % n := by rw [Nat.mul_mod, Nat.mod_mod, ← Nat.mul_mod]
theorem neg9 : ∀ m, m < 10 → nI m + (-9) ≤ 0 := by decide +kernel
theorem bd128 {v f : Nat} (hv : v < 2 ^ 512) (hf : f ≤ 1073741824) : v * f + 0 < yB 128 := by
  rw [yB_two, Nat.add_zero]
  have h1 : v * f ≤ v * 2 ^ 30 := Nat.mul_le_mul_left v hf
  have h2 : v * 2 ^ 30 < 2 ^ 512 * 2 ^ 30 := Nat.mul_lt_mul_of_pos_right hv (by decide)
  rw [← Nat.pow_add] at h2
  exact Nat.lt_of_le_of_lt h1 (Nat.lt_of_lt_of_le h2 (Nat.pow_le_pow_right (by decide) (by decide)))
/-- n is p to the t times q, which p doesn't go into -/
def tko (p n t q : Nat) : Prop := n = p ^ t * q ∧ q % p ≠ 0
theorem tko_un {p : Nat} (hp : 0 < p) : ∀ {n t q t' q' : Nat}, tko p n t q → tko p n t' q' → t = t' ∧ q = q'
  | n, 0, q, 0, q', h, h' => by
    have e1 : n = p ^ 0 * q := h.1
    have e2 : n = p ^ 0 * q' := h'.1
    rw [Nat.pow_zero, Nat.one_mul] at e1 e2
    exact ⟨rfl, e1.symm.trans e2⟩
  | n, 0, q, t' + 1, q', h, h' => by
    exfalso
    have e1 : n = p ^ 0 * q := h.1
    rw [Nat.pow_zero, Nat.one_mul] at e1
    have e2 : n = p ^ (t' + 1) * q' := h'.1
    refine h.2 ?_
    rw [← e1, e2, Nat.pow_succ, Nat.mul_comm (p ^ t') p, Nat.mul_assoc]
    exact Nat.mul_mod_right _ _
  | n, t + 1, q, 0, q', h, h' => by
    exfalso
    have e1 : n = p ^ 0 * q' := h'.1
    rw [Nat.pow_zero, Nat.one_mul] at e1
    have e2 : n = p ^ (t + 1) * q := h.1
    refine h'.2 ?_
    rw [← e1, e2, Nat.pow_succ, Nat.mul_comm (p ^ t) p, Nat.mul_assoc]
    exact Nat.mul_mod_right _ _
  | n, t + 1, q, t' + 1, q', h, h' => by
    have e1 : n = p * (p ^ t * q) := by rw [h.1, Nat.pow_succ, Nat.mul_comm (p ^ t) p, Nat.mul_assoc]
    have e2 : n = p * (p ^ t' * q') := by rw [h'.1, Nat.pow_succ, Nat.mul_comm (p ^ t') p, Nat.mul_assoc]
    have e3 : p ^ t * q = p ^ t' * q' := Nat.eq_of_mul_eq_mul_left hp (e1.symm.trans e2)
    obtain ⟨a1, a2⟩ := tko_un hp (n := p ^ t * q) (t := t) (q := q) (t' := t') (q' := q') ⟨rfl, h.2⟩ ⟨e3, h'.2⟩
    exact ⟨by rw [a1], a2⟩
theorem tko_s {p n t q : Nat} (h : n = p ^ t * q) (h0 : q % p = 0) : n = p ^ (t + 1) * (q / p) := by
  have e : q = p * (q / p) := by have := Nat.div_add_mod q p; rw [h0, Nat.add_zero] at this; exact this.symm
  rw [h, Nat.pow_succ, Nat.mul_assoc, ← e]
section CDec2
variable {g : xG} {l : Launch} {h : xH} {J : Nat → Nat → Int32} {Q : Option Value → xH → Prop} {x d : Nat} {V : Vl}
theorem c_takeOut {p n : Nat} (hE : CE h d) (hp2 : 2 ≤ p) (hp5 : p ≤ 5) (hN : NJ J (d + 1) 128 n) (hn0 : 0 < n) (hn : n < 2 ^ 512) (k : ∀ J' t q, (∀ r, r < d ∨ d + 6 ≤ r → J' r = J r) → NJ J' (d + 1) 128 q → tko p n t q → t < 512 → Q (some (.int (nI t))) (xJ h J')) : ac g l mX3_takeOut [.ref d, .int (nI p)] (xJ h J) Q := by
  refine ac_of (by decide) (Nat.le_of_ble_eq_true rfl) ?_
  obtain ⟨t3, ⟨p0, p1, p2⟩, hW, hR, t5⟩ := hE
  have tw := hW.1
  have tr := hR.1
  have gt : ∀ t q, n = p ^ t * q → 0 < q → t < 512 := fun t q e hq => by
    rcases Nat.lt_or_ge t 512 with z | z
    · exact z
    · exfalso
      have h1 : 2 ^ 512 ≤ 2 ^ t := Nat.pow_le_pow_right (by decide) z
      have h2 : 2 ^ t ≤ p ^ t := Nat.pow_le_pow_left hp2 t
      have h3 : p ^ t * 1 ≤ p ^ t * q := Nat.mul_le_mul_left _ hq
      rw [Nat.mul_one, ← e] at h3
      exact Nat.lt_irrefl _ (Nat.lt_of_lt_of_le hn (Nat.le_trans h1 (Nat.le_trans h2 h3)))
  refine nX3_takeOut_0 ?_
  refine sX3_takeOut_1 ?_
  refine nX3_takeOut_2 ?_
  refine sX3_takeOut_3 ?_
  suffices Hl : ∀ f t q (J1 : Nat → Nat → Int32) (lv0 : List (Nat × Value)), t + f = 512 → n = p ^ t * q → 0 < q → (∀ r, r < d ∨ d + 6 ≤ r → J1 r = J r) → NJ J1 (d + 1) 128 q → (∀ z ∈ ([(0, .ref d), (1, .int (nI p)), (2, .int (nI t)), (3, .int (nI t))] : List (Nat × Value)), z ∈ lv0) → aw g l mX3_takeOut 4 lv0 [] (xJ h J1) Q from Hl 512 0 n J _ rfl (by rw [Nat.pow_zero, Nat.one_mul]) hn0 (fun _ _ => rfl) hN (fun z hz => by simp only [List.mem_cons, List.not_mem_nil, or_false] at hz; rcases hz with rfl | rfl | rfl | rfl <;> exact xlk_mem rfl)
  intro f
  induction f with
  | zero =>
    intro t q J1 lv0 ht he hq
    have := gt t q he hq
    omega
  | succ f ih =>
    intro t q J1 lv0 ht he hq o n1 hlv
    refine aw_lv hlv ?_
    have ht5 := gt t q he hq
    refine sX3_takeOut_4 rfl ?_
    refine nX3_takeOut_5 ?_
    refine nX3_takeOut_8 (by omega) (by decide) (fun z => absurd z (by omega)) (fun _ => ?_)
    refine sX3_takeOut_11 rfl ?_
    refine jX3_takeOut_12 (by assumption) (by assumption) ?_
    refine sX3_takeOut_15 rfl ?_
    refine jX3_takeOut_16 (by assumption) (by assumption) ?_
    refine jX3_takeOut_19 (Nat.le_of_ble_eq_true rfl) (by assumption) ?_
    refine c_copy5 hR hW (by decide) (by decide) (by omega) n1 (NJ_lt n1) (fun J2 o2 n2 => ?_)
    refine sX3_takeOut_22 rfl ?_
    refine jX3_takeOut_23 (by assumption) (by assumption) ?_
    refine sX3_takeOut_26 rfl ?_
    refine jX3_takeOut_27 (Nat.le_of_ble_eq_true rfl) (by assumption) ?_
    refine c_divideSmall5 hR (by decide) (by omega) (by omega) n2 (fun J3 o3 n3 => ?_)
    have o13 : ∀ r, r ≠ d + 3 → r ≠ d + 3 + 1 → J3 r = J1 r := fun r a1 a2 => by rw [o3 r a1 a2, o2 r a1 a2]
    have n13 : NJ J3 (d + 1) 128 q := NJ_c (o13 _ (by omega) (by omega)) (o13 _ (by omega) (by omega)) n1
    have hmod : q % p < 2 ^ 31 := Nat.lt_trans (Nat.mod_lt _ (by omega)) (by omega)
    refine nX3_takeOut_30 hmod (fun z => ?_) (fun z => ?_)
    · refine sX3_takeOut_36 rfl ?_
      refine jX3_takeOut_37 (by assumption) (by assumption) ?_
      refine sX3_takeOut_40 rfl ?_
      refine jX3_takeOut_41 (by assumption) (by assumption) ?_
      refine jX3_takeOut_44 (Nat.le_of_ble_eq_true rfl) (by assumption) ?_
      refine c_copy5 hW hR (by decide) (by decide) (by omega) n3 (NJ_lt n3) (fun J4 o4 n4 => ?_)
      refine nX3_takeOut_47 rfl ?_
      refine nX3_takeOut_50 rfl ?_
      refine sX3_takeOut_53 ?_
      refine ih (t + 1) (q / p) J4 _ (by omega) (tko_s he z) ?_ (fun r hr => by rw [o4 r (by omega) (by omega), o13 r (by omega) (by omega)]; exact o r hr) n4 (fun z hz => by simp only [List.mem_cons, List.not_mem_nil, or_false] at hz; rcases hz with rfl | rfl | rfl | rfl <;> exact xlk_mem rfl)
      rcases Nat.eq_zero_or_pos (q / p) with y | y
      · have := Nat.div_add_mod q p
        rw [y, z, Nat.mul_zero] at this
        omega
      · exact y
    · refine sX3_takeOut_33 ?_
      refine sX3_takeOut_56 rfl ?_
      exact sX3_takeOut_57 (k J3 t q (fun r hr => by rw [o13 r (by omega) (by omega)]; exact o r hr) n13 ⟨he, z⟩ ht5)
theorem c_ends10 {w : Int32} (hM : CM h x) (hE : CE h (x + 20)) (hCV : CV h (x + 26)) (hV : VJ J (x + 26) V) (wV : vWf V) (k0 : (∀ j, j < 3 → w ≠ nI j) → Q (some (.int (-1))) (xJ h J)) (k1 : ∀ t q u q2 J', (∀ r, r < x + 20 ∨ x + 26 ≤ r → J' r = J r) → tko 2 V.2.2.1 t q → (w = nI 0 → Q (some (.int (nI t))) (xJ h J')) ∧ (w ≠ nI 0 → tko 5 q u q2 → (w = nI 1 → Q (some (.int (nI u))) (xJ h J')) ∧ (w = nI 2 → Q (some (.int (if q2 = 1 then 1 else 0))) (xJ h J')))) : ac g l mX10_ends [.ref x, .int w] (xJ h J) Q := by
  refine ac_of (by decide) (Nat.le_of_ble_eq_true rfl) ?_
  obtain ⟨t1, ⟨-, -, -, -, p6, p7⟩, -⟩ := hM
  obtain ⟨t9, ⟨-, v2, -⟩, -, hcb, -⟩ := id hCV
  obtain ⟨t3, ⟨e0, -, -⟩, hW, -⟩ := id hE
  have tw := hW.1
  have no : (∀ j, j < 3 → w ≠ nI j) → aw g l mX10_ends 9 (lv_args 0 [.ref x, .int w]) [] (xJ h J) Q := fun z => by
    refine sX10_ends_9 ?_
    exact sX10_ends_10 (k0 z)
  refine sX10_ends_0 rfl ?_
  rcases i32c w with z | ⟨j, rfl, hj⟩
  · refine sX10_ends_1 (fun _ => no (fun j hj e => ?_)) (fun y => absurd z y)
    rw [e] at z; exact absurd z (n_lt0 (by omega))
  · refine nX10_ends_1 hj ?_
    refine sX10_ends_4 rfl ?_
    refine nX10_ends_5 ?_
    refine nX10_ends_6 hj (by decide) (fun y => ?_) (fun y => no (fun i hi e => ?_))
    · refine sX10_ends_11 rfl ?_
      refine jX10_ends_12 (by assumption) (by assumption) ?_
      refine jX10_ends_15 (by assumption) (by assumption) ?_
      refine sX10_ends_18 rfl ?_
      refine jX10_ends_19 (by assumption) (by assumption) ?_
      refine jX10_ends_22 (by assumption) (by assumption) ?_
      refine jX10_ends_25 (Nat.le_of_ble_eq_true rfl) (by assumption) ?_
      refine c_copy5 hW hcb (by decide) (by decide) (by omega) hV.2.2.1 (Nat.lt_of_lt_of_le (NJ_lt hV.2.2.1) (yB_le (by decide))) (fun J1 o1 n1 => ?_)
      refine sX10_ends_28 rfl ?_
      refine jX10_ends_29 (by assumption) (by assumption) ?_
      refine nX10_ends_32 ?_
      refine jX10_ends_33 (Nat.le_of_ble_eq_true rfl) (by assumption) ?_
      refine c_takeOut hE (by decide) (by decide) n1 wV.1 wV.2.2.1 (fun J2 t q o2 n2 h2 ht => ?_)
      have o12 : ∀ r, r < x + 20 ∨ x + 26 ≤ r → J2 r = J r := fun r hr => by rw [o2 r (by omega), o1 r (by omega) (by omega)]
      refine sX10_ends_36 ?_
      refine sX10_ends_37 rfl ?_
      refine nX10_ends_38 (by omega) (fun u => ?_) (fun u => ?_)
      · have hq0 : 0 < q := by
          rcases Nat.eq_zero_or_pos q with v | v
          · have := h2.2; rw [v] at this; exact absurd rfl this
          · exact v
        have hq : q < 2 ^ 512 := by
          refine Nat.lt_of_le_of_lt ?_ wV.2.2.1
          rw [h2.1]
          exact Nat.le_mul_of_pos_left _ (Nat.pow_pos (by decide))
        refine sX10_ends_43 rfl ?_
        refine jX10_ends_44 (by assumption) (by assumption) ?_
        refine nX10_ends_47 ?_
        refine jX10_ends_48 (Nat.le_of_ble_eq_true rfl) (by assumption) ?_
        refine c_takeOut hE (by decide) (by decide) n2 hq0 hq (fun J3 u' q2 o3 n3 h5 hu => ?_)
        have o13 : ∀ r, r < x + 20 ∨ x + 26 ≤ r → J3 r = J r := fun r hr => by rw [o3 r (by omega), o12 r hr]
        have kk := (k1 t q u' q2 J3 o13 h2).2 (fun v => u ((nI_eq hj (by decide)).mp v)) h5
        refine sX10_ends_51 ?_
        refine sX10_ends_52 rfl ?_
        refine nX10_ends_53 ?_
        refine nX10_ends_54 (by omega) (by decide) (fun v => ?_) (fun v => ?_)
        · have e2 : nI j = nI 2 := by rw [show j = 2 by omega]
          have kq := kk.2 e2
          refine sX10_ends_59 rfl ?_
          refine jX10_ends_60 (by assumption) (by assumption) ?_
          refine jX10_ends_63 (by assumption) (by assumption) ?_
          refine jX10_ends_66 (Nat.le_of_ble_eq_true rfl) (by assumption) ?_
          refine c_isOne5 hW (by decide) n3 (fun w1 => ?_) (fun w1 => ?_)
          · rw [if_pos w1] at kq
            refine sX10_ends_69 (fun s => absurd s (by decide)) (fun _ => ?_)
            refine sX10_ends_72 ?_
            refine sX10_ends_73 ?_
            exact sX10_ends_77 kq
          · rw [if_neg w1] at kq
            refine sX10_ends_69 (fun _ => ?_) (fun s => absurd rfl s)
            refine sX10_ends_76 ?_
            exact sX10_ends_77 kq
        · subst v
          refine sX10_ends_57 rfl ?_
          exact sX10_ends_58 (kk.1 rfl)
      · subst u
        refine sX10_ends_41 rfl ?_
        exact sX10_ends_42 ((k1 t q 0 0 J2 o12 h2).1 rfl)
    · have := (nI_eq hj (by omega)).mp e; omega
theorem c_behindPoint {i q e : Nat} (hE : CE h d) (hCV : CV h q) (hCB : CB h e) (hq1 : d + 6 ≤ q) (hq2 : q + 6 ≤ e) (hV : VJ J q V) (wV : vWf V) (hT : CT g h J) (hg : g.2.2.2 < d) (hi1 : 1 ≤ i) (hi2 : i ≤ 300) (k : ∀ J', (∀ r, r < d ∨ d + 6 ≤ r → r ≠ e + 9 → r ≠ e + 10 → r ≠ e + 11 → r ≠ e + 12 → J' r = J r) → Q (some (.int (nI (V.2.1 * 10 ^ (i - 1) % V.2.2.1 * 10 / V.2.2.1)))) (xJ h J')) : ac g l mX3_behindPoint [.ref d, .ref q, .int (nI i), .ref e] (xJ h J) Q := by
  refine ac_of (by decide) (Nat.le_of_ble_eq_true rfl) ?_
  obtain ⟨t3, ⟨p0, p1, p2⟩, hW, -, t5⟩ := id hE
  obtain ⟨t9, ⟨v1, v2, -⟩, hct, hcb, -⟩ := id hCV
  obtain ⟨te, ⟨-, -, -, -, e6, -⟩, ⟨-, -, -, -, hcq⟩, -⟩ := id hCB
  have tw := hW.1
  have tq := hcq.1
  have hd0 : 0 < V.2.2.1 := wV.1
  -- rows that stay
  have fr1 : ∀ J1 J2 : Nat → Nat → Int32, (∀ r, r < d ∨ d + 6 ≤ r → r ≠ e + 9 → r ≠ e + 10 → r ≠ e + 11 → r ≠ e + 12 → J1 r = J r) → yo (d + 1) J1 J2 → (∀ r, r < d ∨ d + 6 ≤ r → r ≠ e + 9 → r ≠ e + 10 → r ≠ e + 11 → r ≠ e + 12 → J2 r = J r) := fun J1 J2 o1 o2 r h1 h2 h3 h4 h5 => by rw [o2 r (by omega) (by omega)]; exact o1 r h1 h2 h3 h4 h5
  have fr2 : ∀ J1 J2 : Nat → Nat → Int32, (∀ r, r < d ∨ d + 6 ≤ r → r ≠ e + 9 → r ≠ e + 10 → r ≠ e + 11 → r ≠ e + 12 → J1 r = J r) → yo6 (d + 1) e J1 J2 → (∀ r, r < d ∨ d + 6 ≤ r → r ≠ e + 9 → r ≠ e + 10 → r ≠ e + 11 → r ≠ e + 12 → J2 r = J r) := fun J1 J2 o1 o2 r h1 h2 h3 h4 h5 => by rw [o2 r (by omega) (by omega) h2 h3 h4 h5]; exact o1 r h1 h2 h3 h4 h5
  have bot : ∀ J1 : Nat → Nat → Int32, (∀ r, r < d ∨ d + 6 ≤ r → r ≠ e + 9 → r ≠ e + 10 → r ≠ e + 11 → r ≠ e + 12 → J1 r = J r) → NJ J1 (q + 3) 18 V.2.2.1 := fun J1 o => NJ_c (o _ (by omega) (by omega) (by omega) (by omega) (by omega)) (o _ (by omega) (by omega) (by omega) (by omega) (by omega)) hV.2.2.1
  -- the last digit
  have last : ∀ (J1 : Nat → Nat → Int32) (lv0 : List (Nat × Value)), (∀ r, r < d ∨ d + 6 ≤ r → r ≠ e + 9 → r ≠ e + 10 → r ≠ e + 11 → r ≠ e + 12 → J1 r = J r) → NJ J1 (d + 1) 128 (V.2.1 * 10 ^ (i - 1) % V.2.2.1) → (∀ z ∈ ([(0, .ref d), (1, .ref q), (3, .ref e)] : List (Nat × Value)), z ∈ lv0) → aw g l mX3_behindPoint 70 lv0 [] (xJ h J1) Q := by
    intro J1 lv0 o1 n1 hlv
    refine aw_lv hlv ?_
    have hw : V.2.1 * 10 ^ (i - 1) % V.2.2.1 < V.2.2.1 := Nat.mod_lt _ hd0
    generalize hww : V.2.1 * 10 ^ (i - 1) % V.2.2.1 = w at n1 hw k
    refine sX3_behindPoint_70 rfl ?_
    refine jX3_behindPoint_71 (by assumption) (by assumption) ?_
    refine nX3_behindPoint_74 ?_
    refine nX3_behindPoint_76 ?_
    refine jX3_behindPoint_77 (Nat.le_of_ble_eq_true rfl) (by assumption) ?_
    refine c_timesPlus hW (by decide) (by decide) (by decide) (by decide) n1 (bd128 (Nat.lt_trans hw wV.2.2.1) (by decide)) (fun J2 o2 n2 => ?_)
    have f2 := fr1 J1 J2 o1 o2
    refine sX3_behindPoint_80 rfl ?_
    refine sX3_behindPoint_81 rfl ?_
    refine jX3_behindPoint_82 (by assumption) (by assumption) ?_
    refine sX3_behindPoint_85 rfl ?_
    refine jX3_behindPoint_86 (by assumption) (by assumption) ?_
    refine jX3_behindPoint_89 (Nat.le_of_ble_eq_true rfl) (by assumption) ?_
    refine c_splitBy hCB hW hcb (by decide) (by decide) (by omega) (by omega) (by omega) n2 (bot J2 f2) hd0 (fun J3 o3 n3 q3 => ?_)
    rw [Nat.add_zero] at q3
    have f3 := fr2 J2 J3 f2 o3
    have h10 : w * 10 / V.2.2.1 < 10 := Nat.div_lt_of_lt_mul (by rw [Nat.mul_comm V.2.2.1 10, Nat.mul_comm w 10]; exact Nat.mul_lt_mul_of_pos_left hw (by decide))
    obtain ⟨s, ⟨s1, s2, s3, s4⟩, syl⟩ := q3
    refine sX3_behindPoint_92 rfl ?_
    refine jX3_behindPoint_93 (by assumption) (by assumption) ?_
    refine jX3_behindPoint_96 (by assumption) ?_
    rw [s3]
    have ks := k J3 f3
    generalize w * 10 / V.2.2.1 = z at h10 s2 s4 syl ks
    refine nX3_behindPoint_99 (by omega) (fun y => ?_) (fun y => ?_)
    · have ql := hcq.2.1
      have tl := hcq.2.2
      refine sX3_behindPoint_106 rfl ?_
      refine jX3_behindPoint_107 (by assumption) (by assumption) ?_
      refine jX3_behindPoint_110 (by assumption) (by assumption) ?_
      refine nX3_behindPoint_113 ?_
      refine jX3_behindPoint_114 (by assumption) (by omega) (by omega) ?_
      rw [s4 0 (by omega), yg_small (by omega) 0, if_pos rfl]
      exact sX3_behindPoint_115 ks
    · subst y
      have : z = 0 := by have : z < yB 0 := s2; rw [show yB 0 = 1 from rfl] at this; omega
      subst this
      refine nX3_behindPoint_102 ?_
      refine sX3_behindPoint_103 ?_
      exact sX3_behindPoint_115 ks
  refine sX3_behindPoint_0 rfl ?_
  refine jX3_behindPoint_1 (by assumption) (by assumption) ?_
  refine sX3_behindPoint_4 rfl ?_
  refine jX3_behindPoint_5 (by assumption) (by assumption) ?_
  refine jX3_behindPoint_8 (Nat.le_of_ble_eq_true rfl) (by assumption) ?_
  refine c_copy5 hW hct (by decide) (by decide) (by omega) hV.2.1 (Nat.lt_of_lt_of_le (NJ_lt hV.2.1) (yB_le (by decide))) (fun J1 o1 n1 => ?_)
  have f1 := fr1 J J1 (fun _ _ _ _ _ _ => rfl) o1
  refine sX3_behindPoint_11 rfl ?_
  refine sX3_behindPoint_12 rfl ?_
  refine jX3_behindPoint_13 (by assumption) (by assumption) ?_
  refine sX3_behindPoint_16 rfl ?_
  refine jX3_behindPoint_17 (by assumption) (by assumption) ?_
  refine jX3_behindPoint_20 (Nat.le_of_ble_eq_true rfl) (by assumption) ?_
  refine c_splitBy hCB hW hcb (by decide) (by decide) (by omega) (by omega) (by omega) n1 (bot J1 f1) hd0 (fun J2 o2 n2 q2 => ?_)
  have f2 := fr2 J1 J2 f1 o2
  refine sX3_behindPoint_23 rfl ?_
  refine nX3_behindPoint_24 ?_
  refine nX3_behindPoint_25 (by omega) ?_
  refine sX3_behindPoint_26 ?_
  suffices Hl : ∀ μ m t (J3 : Nat → Nat → Int32) (lv0 : List (Nat × Value)), m ≤ μ → t + m = i - 1 → (∀ r, r < d ∨ d + 6 ≤ r → r ≠ e + 9 → r ≠ e + 10 → r ≠ e + 11 → r ≠ e + 12 → J3 r = J r) → NJ J3 (d + 1) 128 (V.2.1 * 10 ^ t % V.2.2.1) → (∀ z ∈ ([(0, .ref d), (1, .ref q), (3, .ref e), (4, .int (nI m))] : List (Nat × Value)), z ∈ lv0) → aw g l mX3_behindPoint 28 lv0 [] (xJ h J3) Q from Hl (i - 1) (i - 1) 0 J2 _ (Nat.le_refl _) (by omega) f2 (by rw [Nat.pow_zero, Nat.mul_one]; exact n2) (fun z hz => by simp only [List.mem_cons, List.not_mem_nil, or_false] at hz; rcases hz with rfl | rfl | rfl | rfl <;> exact xlk_mem rfl)
  intro μ
  induction μ with
  | zero =>
    intro m t J3 lv0 hm ht f3 n3 hlv
    refine aw_lv hlv ?_
    obtain rfl : m = 0 := by omega
    rw [show t = i - 1 by omega] at n3
    refine sX3_behindPoint_28 rfl ?_
    refine nX3_behindPoint_30 (by decide) (fun _ => last J3 _ f3 n3 (fun z hz => by simp only [List.mem_cons, List.not_mem_nil, or_false] at hz; rcases hz with rfl | rfl | rfl <;> exact xlk_mem rfl)) (fun y => absurd y (by decide))
  | succ μ ih =>
    intro m t J3 lv0 hm ht f3 n3 hlv
    refine aw_lv hlv ?_
    refine sX3_behindPoint_28 rfl ?_
    refine nX3_behindPoint_30 (by omega) (fun y => ?_) (fun y => ?_)
    · subst y
      rw [show t = i - 1 by omega] at n3
      exact last J3 _ f3 n3 (fun z hz => by simp only [List.mem_cons, List.not_mem_nil, or_false] at hz; rcases hz with rfl | rfl | rfl <;> exact xlk_mem rfl)
    · have hw : V.2.1 * 10 ^ t % V.2.2.1 < V.2.2.1 := Nat.mod_lt _ hd0
      refine sX3_behindPoint_33 rfl ?_
      refine jX3_behindPoint_34 (by assumption) (by assumption) ?_
      refine sX3_behindPoint_37 ?_
      refine sX3_behindPoint_40 rfl ?_
      refine nX3_behindPoint_42 ?_
      refine mX3_behindPoint_44n (Nat.le_of_ble_eq_true rfl) (by omega) (by decide) ?_
      obtain ⟨ee, hee⟩ : ∃ ee, ee = min m 9 := ⟨_, rfl⟩
      rw [← hee]
      have he9 : ee ≤ 9 := by omega
      refine jX3_behindPoint_47F hT.1 (by omega) (by decide) ?_
      rw [f3 _ (Or.inl hg) (by omega) (by omega) (by omega) (by omega), hT.2 ee (by omega)]
      have hp1 : 10 ^ ee ≤ 10 ^ 9 := Nat.pow_le_pow_right (by decide) he9
      have hp2 : 0 < 10 ^ ee := Nat.pow_pos (by decide)
      refine nX3_behindPoint_48 ?_
      refine jX3_behindPoint_49 (Nat.le_of_ble_eq_true rfl) (by assumption) ?_
      refine c_timesPlus hW (by decide) hp2 (Nat.le_trans hp1 (by decide)) (by decide) n3 (bd128 (Nat.lt_trans hw wV.2.2.1) (Nat.le_trans hp1 (by decide))) (fun J4 o4 n4 => ?_)
      have f4 := fr1 J3 J4 f3 o4
      have n4' : NJ J4 (d + 1) 128 (V.2.1 * 10 ^ t % V.2.2.1 * 10 ^ ee) := n4
      refine sX3_behindPoint_52 rfl ?_
      refine sX3_behindPoint_53 rfl ?_
      refine jX3_behindPoint_54 (by assumption) (by assumption) ?_
      refine sX3_behindPoint_57 rfl ?_
      refine jX3_behindPoint_58 (by assumption) (by assumption) ?_
      refine jX3_behindPoint_61 (Nat.le_of_ble_eq_true rfl) (by assumption) ?_
      refine c_splitBy hCB hW hcb (by decide) (by decide) (by omega) (by omega) (by omega) n4' (bot J4 f4) hd0 (fun J5 o5 n5 q5 => ?_)
      have f5 := fr2 J4 J5 f4 o5
      rw [mmm, Nat.mul_assoc, ← Nat.pow_add] at n5
      refine sX3_behindPoint_64 rfl ?_
      refine sX3_behindPoint_67 ?_
      by_cases z9 : m ≤ 9
      · have em : ee = m := by omega
        rw [em, show t + m = i - 1 by omega] at n5
        refine sX3_behindPoint_28 rfl ?_
        exact sX3_behindPoint_30 (fun _ => last J5 _ f5 n5 (fun z hz => by simp only [List.mem_cons, List.not_mem_nil, or_false] at hz; rcases hz with rfl | rfl | rfl <;> exact xlk_mem rfl)) (fun u => absurd (neg9 m (by omega)) u)
      · have em : ee = 9 := by omega
        rw [em] at n5
        have e9 : nI m + (-9) = nI (m - 9) := by rw [show (-9 : Int32) = - nI 9 by rfl, ← Int32.sub_eq_add_neg, pk_sub (by omega)]
        rw [e9]
        exact ih (m - 9) (t + 9) J5 _ (by omega) (by omega) f5 n5 (fun z hz => by simp only [List.mem_cons, List.not_mem_nil, or_false] at hz; rcases hz with rfl | rfl | rfl | rfl <;> exact xlk_mem rfl)
theorem c_point10 {i : Int32} {L L' : Nat} (hM : CM h x) (hE : CE h (x + 20)) (hCV : CV h (x + 26)) (hCR : CR h (x + 32) L L') (hV : VJ J (x + 26) V) (wV : vWf V) (hT : CT g h J) (hg : g.2.2.2 < x) (k0 : (∀ j, 1 ≤ j → j ≤ 300 → i ≠ nI j) → Q (some (.int (-1))) (xJ h J)) (k1 : ∀ j J', i = nI j → 1 ≤ j → j ≤ 300 → (∀ r, r < x + 20 ∨ x + 26 ≤ r → r ≠ x + 32 + 1213 + 9 → r ≠ x + 32 + 1213 + 10 → r ≠ x + 32 + 1213 + 11 → r ≠ x + 32 + 1213 + 12 → J' r = J r) → Q (some (.int (nI (V.2.1 * 10 ^ (j - 1) % V.2.2.1 * 10 / V.2.2.1)))) (xJ h J')) : ac g l mX10_point [.ref x, .int i] (xJ h J) Q := by
  refine ac_of (by decide) (Nat.le_of_ble_eq_true rfl) ?_
  obtain ⟨t1, ⟨-, -, -, p5, p6, p7⟩, -⟩ := hM
  obtain ⟨t7, ⟨r0, -⟩, -, hCB, -⟩ := id hCR
  have p5' : xP h x 5 = some (x + 32) := p5
  have t3 := hE.1
  have no : (∀ j, 1 ≤ j → j ≤ 300 → i ≠ nI j) → aw g l mX10_point 12 (lv_args 0 [.ref x, .int i]) [] (xJ h J) Q := fun z => by
    refine sX10_point_12 ?_
    exact sX10_point_13 (k0 z)
  rcases i32c i with z | ⟨j, rfl, hj⟩
  · refine sX10_point_0 rfl ?_
    refine sX10_point_1 ?_
    refine sX10_point_2 (fun _ => no (fun j h1 h2 e => ?_)) (fun y => absurd ?_ y)
    · rw [e] at z; exact absurd z (n_lt0 (by omega))
    · rw [Int32.lt_iff_toInt_lt] at z ⊢
      have e0 : (0 : Int32).toInt = 0 := by decide
      have e1 : (1 : Int32).toInt = 1 := by decide
      omega
  · refine sX10_point_0 rfl ?_
    refine nX10_point_1 ?_
    refine nX10_point_2 hj (by decide) (fun y => no (fun i h1 h2 e => ?_)) (fun y => ?_)
    · have := (nI_eq hj (by omega)).mp e; omega
    · refine sX10_point_5 rfl ?_
      refine nX10_point_6 ?_
      refine nX10_point_9 hj (by decide) (fun u => ?_) (fun u => no (fun i h1 h2 e => ?_))
      · refine sX10_point_14 rfl ?_
        refine jX10_point_15 (by assumption) (by assumption) ?_
        refine sX10_point_18 rfl ?_
        refine jX10_point_19 (by assumption) (by assumption) ?_
        refine sX10_point_22 rfl ?_
        refine sX10_point_23 rfl ?_
        refine jX10_point_24 (by assumption) (by assumption) ?_
        refine jX10_point_27 (by assumption) (by assumption) ?_
        show aw g l mX10_point 30 _ (.ref (x + 32 + 1213) :: .int (nI j) :: .ref (x + 26) :: .ref (x + 20) :: []) _ Q
        refine jX10_point_30 (Nat.le_of_ble_eq_true rfl) (by assumption) ?_
        refine c_behindPoint hE hCV hCB (by omega) (by omega) hV wV hT (by omega) y u (fun J1 o1 => ?_)
        exact sX10_point_33 (k1 j J1 rfl y u o1)
      · have := (nI_eq hj (by omega)).mp e; omega
end CDec2
