/-! ===== the reference: digits, point, ends; alike and power of both ===== -/
theorem p10_lt {a c : Nat} (h : 10 ^ a < 10 ^ c) : a < c := by
  rcases Nat.lt_or_ge a c with y | y
  · exact y
  · exact absurd (Nat.lt_of_lt_of_le h (Nat.pow_le_pow_right (show 0 < 10 by decide) y)) (Nat.lt_irrefl _)
theorem tko_lt {p n t q : Nat} (hp2 : 2 ≤ p) (e : n = p ^ t * q) (hq : 0 < q) (hn : n < 2 ^ 512) : t < 512 := by
  rcases Nat.lt_or_ge t 512 with z | z
  · exact z
  · exfalso
    have h1 : 2 ^ 512 ≤ 2 ^ t := Nat.pow_le_pow_right (by decide) z
    have h2 : 2 ^ t ≤ p ^ t := Nat.pow_le_pow_left hp2 t
    have h3 : p ^ t * 1 ≤ p ^ t * q := Nat.mul_le_mul_left _ hq
    rw [Nat.mul_one, ← e] at h3
    exact Nat.lt_irrefl _ (Nat.lt_of_lt_of_le hn (Nat.le_trans h1 (Nat.le_trans h2 h3)))
theorem zB_10 {v : Nat} (h : v < 2 ^ 512) : v * 10 + 0 < zB 80 := by
  rw [zB_two, Nat.add_zero]
  have h2 : v * 2 ^ 4 < 2 ^ 512 * 2 ^ 4 := Nat.mul_lt_mul_of_pos_right h (by decide)
  rw [← Nat.pow_add] at h2
  exact Nat.lt_of_le_of_lt (Nat.mul_le_mul_left v (by decide)) (Nat.lt_of_lt_of_le h2 (Nat.pow_le_pow_right (by decide) (by decide)))
theorem zB_2 {v : Nat} (h : v < 2 ^ 512) : 2 * v ≤ zB 80 := by
  have := zB_10 h
  omega
noncomputable def ct (P : Nat → Prop) : Nat → Nat
  | 0 => 0
  | k + 1 => ct P k + cIf (P k) 1 0
theorem ct_y {P : Nat → Prop} {k : Nat} (h : P k) : ct P (k + 1) = ct P k + 1 := by show ct P k + cIf (P k) 1 0 = _; rw [cIf_t h]
theorem ct_n {P : Nat → Prop} {k : Nat} (h : ¬ P k) : ct P (k + 1) = ct P k := by show ct P k + cIf (P k) 1 0 = _; rw [cIf_f h]; rfl
theorem ct_le (P : Nat → Prop) : ∀ k, ct P k ≤ k
  | 0 => Nat.le_refl _
  | k + 1 => by
    have := ct_le P k
    by_cases z : P k
    · rw [ct_y z]; omega
    · rw [ct_n z]; omega
theorem ct_mono {P : Nat → Prop} {k : Nat} : ∀ {k'}, k ≤ k' → ct P k ≤ ct P k'
  | 0, h => by rw [show k = 0 by omega]; exact Nat.le_refl _
  | k' + 1, h => by
    rcases Nat.eq_or_lt_of_le h with e | e
    · rw [e]; exact Nat.le_refl _
    · exact Nat.le_trans (ct_mono (Nat.le_of_lt_succ e)) (Nat.le_add_right _ _)
theorem ct_un {P : Nat → Prop} {k k' : Nat} (h : P k) (h' : P k') (e : ct P k = ct P k') : k = k' := by
  rcases Nat.lt_trichotomy k k' with z | z | z
  · have := ct_mono (P := P) (show k + 1 ≤ k' from z); rw [ct_y h] at this; omega
  · exact z
  · have := ct_mono (P := P) (show k' + 1 ≤ k from z); rw [ct_y h'] at this; omega
/-- DEFINITION k is alike -/
def alk (D : Nat → Df) (E : Nat → Option (Nat × Vl)) (V : Vl) (k : Nat) : Prop := fso D k ≠ 2 ∧ ∃ v, E k = some (0, v) ∧ pEq v.2.2.2 V.2.2.2
section CAlike
variable {g : xG} {l : Launch} {h : xH} {J : Nat → Nat → Int32} {Q : Option Value → xH → Prop} {x L L' H B c ts fl gv : Nat} {D : Nat → Df} {T tp : Nat → Nat} {E : Nat → Option (Nat × Vl)} {V : Vl}
theorem c_isAlike {k : Nat} (hI : CI g h J x L L' H B c D T E ts tp V fl gv) (hK : KN B c D E) (hk : k < c) (k1 : alk D E V k → Q (some (.int 1)) (xJ h J)) (k0 : ¬ alk D E V k → Q (some (.int 0)) (xJ h J)) : ac g l mX10_isAlike [.ref x, .int (nI k)] (xJ h J) Q := by
  refine ac_of (by decide) (Nat.le_of_ble_eq_true rfl) ?_
  obtain ⟨hS, hptr, -, -, -, hD, hB, hE, ⟨hV, wV⟩, -, -⟩ := hI
  obtain ⟨gx, hxH, hHh, hW, hQ, hR, lay⟩ := CS_x hS
  obtain ⟨hM, hU, hCV, hCE⟩ := id hS
  have efx : fxT h x = h := fxT_id (hptr (by omega))
  rw [efx] at hR
  obtain ⟨t1, ⟨p1, p3, p4, p5, p6, p7⟩, -⟩ := id hM
  obtain ⟨tw, ⟨-, -, w2, -⟩, -, ⟨w6, -⟩, -⟩ := id hW
  obtain ⟨t7, ⟨-, q1, -⟩, -, -, ⟨t4, ⟨l0, l1, l2⟩, u1, u2, u3, hval⟩, -, -⟩ := id hR
  have p5' : xP h x 5 = some (x + 32) := p5
  have hc := hD.1
  obtain ⟨c1, -⟩ := hB.2.2.2 k hk
  have hs2 := (hD.2.1 k hk).1
  obtain ⟨r, er, r4, -⟩ := hK k hk
  obtain ⟨r1, r2⟩ := (hE k hk).2 r er
  obtain ⟨f2, fv⟩ : J (L + 2) k = nI r.1 ∧ (r.1 = 0 → VJ J (L + 4 + 6 * k) r.2 ∧ vWf r.2) := by
    rcases r2 with ⟨-, y⟩ | ⟨-, y1, y2⟩
    · exact absurd y r4
    · exact ⟨y1, y2⟩
  have no : ∀ lv0 : List (Nat × Value), ¬ alk D E V k → aw g l mX10_isAlike 50 lv0 [] (xJ h J) Q := fun lv0 z => by
    refine sX10_isAlike_50 ?_
    exact sX10_isAlike_51 (Or.inl rfl) (k0 z)
  refine sX10_isAlike_0 rfl ?_
  refine jX10_isAlike_1 (by assumption) (by assumption) ?_
  refine jX10_isAlike_4 (by assumption) (by assumption) ?_
  refine sX10_isAlike_7 ?_
  refine sX10_isAlike_8 rfl ?_
  refine jX10_isAlike_9 (by assumption) (by assumption) ?_
  refine jX10_isAlike_12 (by assumption) (by assumption) ?_
  refine sX10_isAlike_15 rfl ?_
  refine jX10_isAlike_16 (by assumption) (by omega) (by omega) ?_
  rw [c1]
  refine nX10_isAlike_17 ?_
  refine nX10_isAlike_18 (by omega) (by decide) (fun z => no _ (fun a => a.1 z)) (fun z => ?_)
  refine sX10_isAlike_21 rfl ?_
  refine jX10_isAlike_22 (by assumption) (by assumption) ?_
  refine sX10_isAlike_25 rfl ?_
  refine jX10_isAlike_26 (by assumption) (by omega) (by omega) ?_
  rw [f2]
  refine nX10_isAlike_27 (by omega) (fun y => no _ (fun a => ?_)) (fun y => ?_)
  · obtain ⟨-, v, ev, -⟩ := a
    have := Option.some.inj (er.symm.trans ev)
    rw [this] at y
    exact y rfl
  · obtain ⟨hv1, hv2⟩ := fv y
    obtain ⟨hp, hcv⟩ := hval k (by omega)
    have t9 := hcv.1
    have er' : E k = some (0, r.2) := by rw [er, ← y]
    have peq : pEq (J (L + 4 + 6 * k + 5)) (J (x + 26 + 5)) ↔ pEq r.2.2.2.2 V.2.2.2 := by
      refine ⟨fun z j hj => ?_, fun z j hj => ?_⟩
      · rw [← hv1.2.2.2 j hj, ← hV.2.2.2 j hj]; exact z j hj
      · rw [hv1.2.2.2 j hj, hV.2.2.2 j hj]; exact z j hj
    refine sX10_isAlike_30 rfl ?_
    refine jX10_isAlike_31 (by assumption) (by assumption) ?_
    refine sX10_isAlike_34 rfl ?_
    refine sX10_isAlike_35 (by show (xT h _).1 = 103; rw [u1]) (by show vp_in _ (xT h _).2; rw [u1]; exact vp_in_nI (by omega) (by decide)) (by show xP h _ _ = _; rw [nI_clamp (by omega)]; exact hp) ?_
    refine sX10_isAlike_36 rfl ?_
    refine jX10_isAlike_37 (by assumption) (by assumption) ?_
    refine jX10_isAlike_40 (Nat.le_of_ble_eq_true rfl) (by assumption) ?_
    refine c_hasPowersOf hcv hCV (fun w => ?_) (fun w => ?_)
    · refine sX10_isAlike_43 (fun v => absurd v (by decide)) (fun _ => ?_)
      refine sX10_isAlike_46 ?_
      refine sX10_isAlike_47 ?_
      exact sX10_isAlike_51 (Or.inr rfl) (k1 ⟨z, r.2, er', peq.mp w⟩)
    · refine sX10_isAlike_43 (fun _ => no _ (fun a => ?_)) (fun v => absurd rfl v)
      obtain ⟨-, v, ev, pe⟩ := a
      have e1 := Option.some.inj (er'.symm.trans ev)
      have e2 : r.2 = v := congrArg Prod.snd e1
      rw [← e2] at pe
      exact w (peq.mpr pe)
theorem c_alike10 {i : Int32} (hI : CI g h J x L L' H B c D T E ts tp V fl gv) (hK : KN B c D E) (k0 : (∀ k, k < c → alk D E V k → i ≠ nI (ct (alk D E V) k)) → Q (some (.int (-1))) (xJ h J)) (k1 : ∀ k, k < c → alk D E V k → i = nI (ct (alk D E V) k) → Q (some (.int (nI k))) (xJ h J)) : ac g l mX10_alike [.ref x, .int i] (xJ h J) Q := by
  refine ac_of (by decide) (Nat.le_of_ble_eq_true rfl) ?_
  have hI' := hI
  obtain ⟨hS, hptr, -, -, -, hD, hB, hE, ⟨hV, wV⟩, -, -⟩ := hI
  obtain ⟨gx, hxH, hHh, hW, hQ, hR, lay⟩ := CS_x hS
  obtain ⟨t1, ⟨p1, p3, -⟩, -⟩ := id hS.1
  have tw := hW.1
  have hc := hD.1
  generalize hP : alk D E V = P at *
  have cl := ct_le P
  refine sX10_alike_0 rfl ?_
  rcases i32c i with z | ⟨j, rfl, hj⟩
  · refine sX10_alike_1 (fun y => absurd z ?_) (fun _ => ?_)
    · intro w
      rw [Int32.lt_iff_toInt_lt] at w
      have y' := Int32.le_iff_toInt_le.mp y
      omega
    · refine sX10_alike_4 ?_
      refine sX10_alike_5 (k0 (fun k hk _ e => ?_))
      have := cl k
      rw [e] at z
      exact absurd z (n_lt0 (by omega))
  · refine sX10_alike_1 (fun _ => ?_) (fun y => absurd (nI_pos' hj) y)
    refine sX10_alike_6 rfl ?_
    refine sX10_alike_7 ?_
    refine nX10_alike_8 ?_
    refine sX10_alike_9 ?_
    suffices Hl : ∀ f k (lv0 : List (Nat × Value)), k + f = c → ct P k ≤ j → (∀ q, q < k → P q → nI j ≠ nI (ct P q)) → (∀ z ∈ ([(0, .ref x), (2, .int (nI (j - ct P k))), (3, .int (nI k))] : List (Nat × Value)), z ∈ lv0) → aw g l mX10_alike 10 lv0 [] (xJ h J) Q from Hl c 0 _ (by omega) (Nat.zero_le _) (fun q hq => by omega) (fun z hz => by simp only [List.mem_cons, List.not_mem_nil, or_false] at hz; rcases hz with rfl | rfl | rfl <;> exact xlk_mem rfl)
    intro f
    induction f with
    | zero =>
      intro k lv0 hk hle ho hlv
      refine aw_lv hlv ?_
      refine sX10_alike_10 rfl ?_
      refine sX10_alike_11 rfl ?_
      refine jX10_alike_12 (by assumption) (by assumption) ?_
      refine jX10_alike_15 (by assumption) ?_
      rw [hB.2.1]
      refine nX10_alike_18 (by omega) (by omega) (fun _ => ?_) (fun z => absurd z (by omega))
      refine sX10_alike_44 ?_
      exact sX10_alike_45 (k0 (fun q hq => ho q (by omega)))
    | succ f ih =>
      intro k lv0 hk hle ho hlv
      refine aw_lv hlv ?_
      have ck := cl k
      refine sX10_alike_10 rfl ?_
      refine sX10_alike_11 rfl ?_
      refine jX10_alike_12 (by assumption) (by assumption) ?_
      refine jX10_alike_15 (by assumption) ?_
      rw [hB.2.1]
      refine nX10_alike_18 (by omega) (by omega) (fun z => absurd z (by omega)) (fun _ => ?_)
      refine sX10_alike_21 rfl ?_
      refine sX10_alike_22 rfl ?_
      refine jX10_alike_23 (Nat.le_of_ble_eq_true rfl) (by assumption) ?_
      refine c_isAlike hI' hK (by omega) (fun a => ?_) (fun a => ?_)
      · rw [hP] at a
        refine sX10_alike_26 (fun v => absurd v (by decide)) (fun _ => ?_)
        refine sX10_alike_29 rfl ?_
        refine nX10_alike_30 (by omega) (fun v => ?_) (fun v => ?_)
        · refine sX10_alike_35 rfl ?_
          rw [show nI (j - ct P k) + -1 = nI (j - ct P (k + 1)) by rw [show (-1 : Int32) = - nI 1 by rfl, ← Int32.sub_eq_add_neg, pk_sub (by omega), ct_y a]; congr 1]
          refine nX10_alike_38 rfl ?_
          refine sX10_alike_41 ?_
          refine ih (k + 1) _ (by omega) (by rw [ct_y a]; omega) (fun q hq hp => ?_) (fun z hz => by simp only [List.mem_cons, List.not_mem_nil, or_false] at hz; rcases hz with rfl | rfl | rfl <;> exact xlk_mem rfl)
          rcases Nat.eq_or_lt_of_le (Nat.le_of_lt_succ hq) with w | w
          · rw [w]
            intro u
            have := (nI_eq hj (by omega)).mp u
            omega
          · exact ho q w hp
        · refine sX10_alike_33 rfl ?_
          exact sX10_alike_34 (k1 k (by omega) a (by rw [show j = ct P k by omega]))
      · rw [hP] at a
        refine sX10_alike_26 (fun _ => ?_) (fun v => absurd rfl v)
        refine nX10_alike_38 rfl ?_
        refine sX10_alike_41 ?_
        refine ih (k + 1) _ (by omega) (by rw [ct_n a]; exact hle) (fun q hq hp => ?_) ?_
        · rcases Nat.eq_or_lt_of_le (Nat.le_of_lt_succ hq) with w | w
          · rw [w] at hp; exact absurd hp a
          · exact ho q w hp
        · rw [ct_n a]; exact (fun z hz => by simp only [List.mem_cons, List.not_mem_nil, or_false] at hz; rcases hz with rfl | rfl | rfl <;> exact xlk_mem rfl)
theorem c_power10 {n : Int32} (hM : CM h x) (hCV : CV h (x + 26)) (hV : VJ J (x + 26) V) (k1 : ∀ j, n = nI j → j < 8 → Q (some (.int (V.2.2.2 j))) (xJ h J)) (k0 : (∀ j, j < 8 → n ≠ nI j) → Q (some (.int 0)) (xJ h J)) : ac g l mX10_power [.ref x, .int n] (xJ h J) Q := by
  refine ac_of (by decide) (Nat.le_of_ble_eq_true rfl) ?_
  obtain ⟨t1, ⟨-, -, -, -, -, p7⟩, -⟩ := hM
  obtain ⟨t9, ⟨-, -, v3⟩, -, -, t5⟩ := hCV
  have no : (∀ j, j < 8 → n ≠ nI j) → aw g l mX10_power 22 (lv_args 0 [.ref x, .int n]) [] (xJ h J) Q := fun z => by
    refine sX10_power_22 ?_
    exact sX10_power_23 (k0 z)
  refine sX10_power_0 rfl ?_
  rcases i32c n with z | ⟨j, rfl, hj⟩
  · refine sX10_power_1 (fun _ => no (fun j hj e => ?_)) (fun y => absurd z y)
    rw [e] at z; exact absurd z (n_lt0 (by omega))
  · refine nX10_power_1 hj ?_
    refine sX10_power_4 rfl ?_
    refine nX10_power_5 ?_
    refine nX10_power_7 hj (by decide) (fun y => no (fun i hi e => ?_)) (fun y => ?_)
    · have := (nI_eq hj (by omega)).mp e; omega
    · refine sX10_power_10 rfl ?_
      refine jX10_power_11 (by assumption) (by assumption) ?_
      refine jX10_power_14 (by assumption) (by assumption) ?_
      refine sX10_power_17 rfl ?_
      refine jX10_power_18 (by assumption) (by omega) (by omega) ?_
      rw [hV.2.2.2 j y]
      refine sX10_power_19 ?_
      exact sX10_power_23 (k1 j rfl y)
end CAlike
section RDec
variable {g : xG} {l : Launch} {h : xH} {b : Nat} {K : Nat → Nat → Int32} {N : Nat → Nat} {S : Nat → Vl} {Q : Option Value → xH → Prop} {B c ts fl gv : Nat} {D : Nat → Df} {E : Nat → Option (Nat × Vl)} {tp : Nat → Nat} {V : Vl}
theorem RI_1 {K' : Nat → Nat → Int32} {N' : Nat → Nat} (ho : xo1 K K') (hN : RN K' N') (hz : zk N N') (hX : RX K N S) (hS67 : S 67 = V) (hRK : RK K S E c) (hI : RI h b K B c D E ts tp V fl gv) : RI h b K' B c D E ts tp V fl gv := by
  obtain ⟨i1, i2, -, i4, i5, i6, i7, i8, i9⟩ := hI
  have z0 : K' 0 = K 0 := ho 0 (by decide)
  refine ⟨i1, by rw [z0]; exact i2, ⟨N', S, RX_scr hX ho hN hz, hS67, fun k hk => ?_⟩, ⟨by rw [z0]; exact i4.1, fun i hi => by rw [ho 4 (by decide)]; exact i4.2 i hi⟩, by rw [z0]; exact i5, RB_x (fun r a1 _ => ho r (by omega)) i6, by rw [z0]; exact i7, by rw [z0]; exact i8, by rw [z0]; exact i9⟩
  rw [ho 12 (by decide), ho 13 (by decide)]; exact hRK k hk
theorem c_power11 {n : Int32} (hI : RI h b K B c D E ts tp V fl gv) (hD : DB c D) (k1 : ∀ j, n = nI j → j < nb (fso D) c → Q (some (.int (V.2.2.2 j))) (xB h b K)) (k0 : (∀ j, j < nb (fso D) c → n ≠ nI j) → Q (some (.int 0)) (xB h b K)) : ac g l mX11_power [.ref b, .int n] (xB h b K) Q := by
  refine ac_of (by decide) (Nat.le_of_ble_eq_true rfl) ?_
  obtain ⟨hS, hB, ⟨N, S, hX, hS67, hRK⟩, -, h6, hRB, -, -, -⟩ := hI
  have hc := hD.1
  have hnb := hD.2.2.2.1
  have no : (∀ j, j < nb (fso D) c → n ≠ nI j) → aw g l mX11_power 17 (lv_args 0 [.ref b, .int n]) [] (xB h b K) Q := fun z => by
    refine sX11_power_17 ?_
    refine sX11_power_18 ?_
    exact sX11_power_31 (k0 z)
  refine sX11_power_0 rfl ?_
  rcases i32c n with z | ⟨j, rfl, hj⟩
  · refine sX11_power_1 (fun _ => no (fun j hj e => ?_)) (fun y => absurd z y)
    rw [e] at z; exact absurd z (n_lt0 (by omega))
  · refine nX11_power_1 hj ?_
    refine sX11_power_4 rfl ?_
    refine sX11_power_5 rfl ?_
    refine nX11_power_6 ?_
    refine sX11_power_7 rfl ?_
    refine tX11_power_8 hS ?_
    rw [h6]
    refine tX11_power_11 hS (Nat.le_of_ble_eq_true rfl) ?_
    refine c_count11 (so := fso D) hS hc (fun k hk => ⟨(hRB k hk).1, (hD.2.1 k hk).1⟩) ?_
    refine nX11_power_14 hj (by omega) (fun y => ?_) (fun y => no (fun i hi e => ?_))
    · refine sX11_power_21 rfl ?_
      refine tX11_power_22 hS ?_
      refine nX11_power_25 ?_
      refine sX11_power_28 rfl ?_
      refine nX11_power_29 ?_
      refine tX11_power_30 hS (by decide) (by decide) rfl (show 536 + j < 1360 by omega) ?_
      rw [show K 3 (536 + j) = V.2.2.2 j by rw [← hS67]; exact (hX.2 67 (by decide)).2.2.2 j (by omega)]
      exact sX11_power_31 (k1 j rfl y)
    · have := (nI_eq hj (by omega)).mp e; omega
theorem c_digits11 {p v : Nat} (hS : RS h b) (hN : RN K N) (hp : p < 2) (hv : N (134 + p) = v) (hv2 : v < 2 ^ 512) (k : ∀ K' N' n, xo1 K K' → RN K' N' → zk N N' → dg v n → Q (some (.int (nI n))) (xB h b K')) : ac g l mX11_digits [.ref b, .int (nI p)] (xB h b K) Q := by
  refine ac_of (by decide) (Nat.le_of_ble_eq_true rfl) ?_
  refine sX11_digits_0 rfl ?_
  refine nX11_digits_1 (by omega) ?_
  refine sX11_digits_4 rfl ?_
  refine nX11_digits_5 ?_
  refine nX11_digits_6 (by omega) (by decide) (fun _ => ?_) (fun y => absurd y (by omega))
  refine sX11_digits_11 rfl ?_
  refine nX11_digits_12 ?_
  refine nX11_digits_15 ?_
  refine sX11_digits_18 rfl ?_
  refine nX11_digits_19 ?_
  refine tX11_digits_20 hS (Nat.le_of_ble_eq_true rfl) ?_
  refine c_copy hS hN (by decide) (by omega) (by omega) (fun K1 o1 n1 => ?_)
  rw [hv] at n1
  refine nX11_digits_23 ?_
  refine sX11_digits_24 ?_
  have small : ∀ n, 1 ≤ n → (n = 1 ∨ 10 ^ (n - 1) ≤ v) → n ≤ 162 := fun n h1 h2 => by
    rcases h2 with z | z
    · omega
    · have h3 : d162 v := d162_of hv2
      have := p10_lt (Nat.lt_of_le_of_lt z h3)
      omega
  suffices Hl : ∀ μ n (K2 : Nat → Nat → Int32) (N2 : Nat → Nat) (lv0 : List (Nat × Value)), (if n = 0 then 1 else 0) + v / 10 ^ n ≤ μ → (n = 0 ∨ n = 1 ∨ 10 ^ (n - 1) ≤ v) → xo1 K K2 → RN K2 N2 → zk N N2 → N2 336 = v / 10 ^ n → (∀ z ∈ ([(0, .ref b), (2, .int (nI n))] : List (Nat × Value)), z ∈ lv0) → aw g l mX11_digits 25 lv0 [] (xB h b K2) Q from Hl _ 0 K1 _ _ (Nat.le_refl _) (Or.inl rfl) o1 n1 (zk_up (by decide)) (by rw [vup_s]; exact (Nat.div_one v).symm) (fun z hz => by simp only [List.mem_cons, List.not_mem_nil, or_false] at hz; rcases hz with rfl | rfl <;> exact xlk_mem rfl)
  intro μ
  induction μ with
  | zero =>
    intro n K2 N2 lv0 hμ hn o2 n2 z2 e2 hlv
    refine aw_lv hlv ?_
    have hn0 : n ≠ 0 := fun y => by rw [if_pos y] at hμ; omega
    rw [if_neg hn0] at hμ
    have hz : v / 10 ^ n = 0 := by omega
    have h162 := small n (by omega) (by omega)
    refine sX11_digits_25 rfl ?_
    refine nX11_digits_26 (by omega) (fun y => absurd y hn0) (fun _ => ?_)
    refine sX11_digits_29 rfl ?_
    refine nX11_digits_30 ?_
    refine tX11_digits_33 hS (Nat.le_of_ble_eq_true rfl) ?_
    refine c_isZero hS n2 (by decide) (fun _ => ?_) (fun y => absurd (e2.trans hz) y)
    refine sX11_digits_36 (fun _ => ?_) (fun y => absurd y (by decide))
    refine sX11_digits_55 rfl ?_
    exact sX11_digits_56 (k K2 N2 n o2 n2 z2 ⟨by omega, Nat.lt_of_div_eq_zero (Nat.pow_pos (by decide)) hz, by omega⟩)
  | succ μ ih =>
    intro n K2 N2 lv0 hμ hn o2 n2 z2 e2 hlv
    refine aw_lv hlv ?_
    have hn31 : n < 2 ^ 31 := by
      by_cases y : n = 0
      · omega
      · have := small n (by omega) (by omega); omega
    have go : ∀ lv1 : List (Nat × Value), (n = 0 ∨ 10 ^ n ≤ v) → (∀ z ∈ ([(0, .ref b), (2, .int (nI n))] : List (Nat × Value)), z ∈ lv1) → aw g l mX11_digits 39 lv1 [] (xB h b K2) Q := by
      intro lv1 hn1 hlv1
      refine aw_lv hlv1 ?_
      refine sX11_digits_39 rfl ?_
      refine nX11_digits_40 ?_
      refine nX11_digits_43 ?_
      refine tX11_digits_45 hS (Nat.le_of_ble_eq_true rfl) ?_
      refine c_divideSmall hS n2 (by decide) (by decide) (by decide) (fun K3 o3 n3 => ?_)
      refine sX11_digits_48 ?_
      refine nX11_digits_49 rfl ?_
      refine sX11_digits_52 ?_
      refine ih (n + 1) K3 _ _ ?_ ?_ (fun r hr => by rw [o3 r hr]; exact o2 r hr) n3 (zk_tr z2 (zk_up (by decide))) (by rw [vup_s, e2, dvs]) (fun z hz => by simp only [List.mem_cons, List.not_mem_nil, or_false] at hz; rcases hz with rfl | rfl <;> exact xlk_mem rfl)
      · rw [if_neg (Nat.succ_ne_zero n), dvs]
        by_cases y : n = 0
        · rw [if_pos y] at hμ; omega
        · rw [if_neg y] at hμ
          have h1 : 10 ^ n ≤ v := by
            rcases hn1 with w | w
            · exact absurd w y
            · exact w
          have h2 : 0 < v / 10 ^ n := Nat.div_pos h1 (Nat.pow_pos (by decide))
          omega
      · rw [Nat.add_sub_cancel]
        rcases hn1 with w | w
        · exact Or.inr (Or.inl (by omega))
        · exact Or.inr (Or.inr w)
    refine sX11_digits_25 rfl ?_
    refine nX11_digits_26 hn31 (fun y => go _ (Or.inl y) (fun z hz => by simp only [List.mem_cons, List.not_mem_nil, or_false] at hz; rcases hz with rfl | rfl <;> exact xlk_mem rfl)) (fun y => ?_)
    refine sX11_digits_29 rfl ?_
    refine nX11_digits_30 ?_
    refine tX11_digits_33 hS (Nat.le_of_ble_eq_true rfl) ?_
    refine c_isZero hS n2 (by decide) (fun w => ?_) (fun w => ?_)
    · refine sX11_digits_36 (fun _ => ?_) (fun y => absurd y (by decide))
      have hz : v / 10 ^ n = 0 := by rw [← e2]; exact w
      refine sX11_digits_55 rfl ?_
      exact sX11_digits_56 (k K2 N2 n o2 n2 z2 ⟨by omega, Nat.lt_of_div_eq_zero (Nat.pow_pos (by decide)) hz, by omega⟩)
    · refine sX11_digits_36 (fun v => absurd rfl v) (fun _ => ?_)
      refine go _ (Or.inr ?_) (fun z hz => by simp only [List.mem_cons, List.not_mem_nil, or_false] at hz; rcases hz with rfl | rfl <;> exact xlk_mem rfl)
      rcases Nat.lt_or_ge v (10 ^ n) with u | u
      · rw [e2] at w; exact absurd (Nat.div_eq_of_lt u) w
      · exact u
theorem c_digit11 {p q v : Nat} {i : Int32} (hS : RS h b) (hN : RN K N) (hp : p < 2) (hv : N (134 + p) = v) (hv2 : v < 2 ^ 512) (k0 : ∀ cn, dg v cn → (i < 0 ∨ ∃ q, i = nI q ∧ q < 2 ^ 31 ∧ cn ≤ q) → ∀ K' N', xo1 K K' → RN K' N' → zk N N' → Q (some (.int (-1))) (xB h b K')) (k1 : ∀ cn q, dg v cn → i = nI q → q < cn → ∀ K' N', xo1 K K' → RN K' N' → zk N N' → Q (some (.int (nI (v / 10 ^ q % 10)))) (xB h b K')) (hdg : ∃ cn, dg v cn) : ac g l mX11_digit [.ref b, .int (nI p), .int i] (xB h b K) Q := by
  refine ac_of (by decide) (Nat.le_of_ble_eq_true rfl) ?_
  obtain ⟨cn0, hcn0⟩ := hdg
  refine sX11_digit_0 rfl ?_
  refine nX11_digit_1 (by omega) ?_
  refine sX11_digit_4 rfl ?_
  refine nX11_digit_5 ?_
  refine nX11_digit_6 (by omega) (by decide) (fun y => absurd y (by omega)) (fun _ => ?_)
  refine sX11_digit_9 rfl ?_
  rcases i32c i with z | ⟨q, rfl, hq⟩
  · refine sX11_digit_10 (fun _ => ?_) (fun y => absurd z y)
    refine sX11_digit_22 ?_
    exact sX11_digit_23 (k0 cn0 hcn0 (Or.inl z) K N (fun _ _ => rfl) hN (zk_rf N))
  · refine nX11_digit_10 hq ?_
    refine sX11_digit_13 rfl ?_
    refine sX11_digit_14 rfl ?_
    refine sX11_digit_15 rfl ?_
    refine tX11_digit_16 hS (Nat.le_of_ble_eq_true rfl) ?_
    refine c_digits11 hS hN hp hv hv2 (fun K1 N1 cn o1 n1 z1 hd => ?_)
    have h162 : cn ≤ 162 := by
      rcases hd.2.2 with z | z
      · omega
      · have h3 : d162 v := d162_of hv2
        have := p10_lt (Nat.lt_of_le_of_lt z h3)
        omega
    refine nX11_digit_19 hq (by omega) (fun y => ?_) (fun y => ?_)
    · refine sX11_digit_24 rfl ?_
      refine nX11_digit_25 ?_
      refine nX11_digit_28 ?_
      refine sX11_digit_31 rfl ?_
      refine nX11_digit_32 ?_
      refine tX11_digit_33 hS (Nat.le_of_ble_eq_true rfl) ?_
      refine c_copy hS n1 (by decide) (by omega) (by omega) (fun K2 o2 n2 => ?_)
      rw [z1 _ (by omega), hv] at n2
      refine nX11_digit_36 ?_
      refine sX11_digit_37 ?_
      refine nX11_digit_38 ?_
      refine sX11_digit_39 ?_
      suffices Hl : ∀ f t w (K3 : Nat → Nat → Int32) (N3 : Nat → Nat) (lv0 : List (Nat × Value)), t + f = q + 1 → (t = 0 ∨ w = v / 10 ^ (t - 1) % 10) → xo1 K K3 → RN K3 N3 → zk N N3 → N3 336 = v / 10 ^ t → (∀ z ∈ ([(0, .ref b), (2, .int (nI q)), (3, .int (nI w)), (4, .int (nI t))] : List (Nat × Value)), z ∈ lv0) → aw g l mX11_digit 41 lv0 [] (xB h b K3) Q from Hl (q + 1) 0 0 K2 _ _ (by omega) (Or.inl rfl) (fun r hr => by rw [o2 r hr]; exact o1 r hr) n2 (zk_tr z1 (zk_up (by decide))) (by rw [vup_s]; exact (Nat.div_one v).symm) (fun z hz => by simp only [List.mem_cons, List.not_mem_nil, or_false] at hz; rcases hz with rfl | rfl | rfl | rfl <;> exact xlk_mem rfl)
      intro f
      induction f with
      | zero =>
        intro t w K3 N3 lv0 ht hw o3 n3 z3 e3 hlv
        refine aw_lv hlv ?_
        obtain rfl : t = q + 1 := by omega
        have hw' : w = v / 10 ^ q % 10 := by
          rcases hw with u | u
          · omega
          · exact u
        refine sX11_digit_41 rfl ?_
        refine sX11_digit_43 rfl ?_
        refine nX11_digit_44 (by omega) (by omega) (fun _ => ?_) (fun u => absurd u (by omega))
        refine sX11_digit_63 rfl ?_
        rw [hw']
        exact sX11_digit_64 (k1 cn q hd rfl y K3 N3 o3 n3 z3)
      | succ f ih =>
        intro t w K3 N3 lv0 ht hw o3 n3 z3 e3 hlv
        refine aw_lv hlv ?_
        refine sX11_digit_41 rfl ?_
        refine sX11_digit_43 rfl ?_
        refine nX11_digit_44 (by omega) (by omega) (fun u => absurd u (by omega)) (fun _ => ?_)
        refine sX11_digit_47 rfl ?_
        refine nX11_digit_48 ?_
        refine nX11_digit_51 ?_
        refine tX11_digit_53 hS (Nat.le_of_ble_eq_true rfl) ?_
        refine c_divideSmall hS n3 (by decide) (by decide) (by decide) (fun K4 o4 n4 => ?_)
        rw [e3]
        refine sX11_digit_56 ?_
        refine nX11_digit_57 rfl ?_
        refine sX11_digit_60 ?_
        refine ih (t + 1) (v / 10 ^ t % 10) K4 _ _ (by omega) (Or.inr (by rw [Nat.add_sub_cancel])) (fun r hr => by rw [o4 r hr]; exact o3 r hr) n4 (zk_tr z3 (zk_up (by decide))) (by rw [vup_s, e3, dvs]) (fun z hz => by simp only [List.mem_cons, List.not_mem_nil, or_false] at hz; rcases hz with rfl | rfl | rfl | rfl <;> exact xlk_mem rfl)
    · refine sX11_digit_22 ?_
      exact sX11_digit_23 (k0 cn hd (Or.inr ⟨q, rfl, hq, y⟩) K1 N1 o1 n1 z1)
theorem c_point11 {i : Int32} {v w : Nat} (hS : RS h b) (hN : RN K N) (hv : N 134 = v) (hw : N 135 = w) (hw0 : 0 < w) (hw2 : w < 2 ^ 512) (k0 : (∀ j, 1 ≤ j → j ≤ 300 → i ≠ nI j) → Q (some (.int (-1))) (xB h b K)) (k1 : ∀ j, i = nI j → 1 ≤ j → j ≤ 300 → ∀ K' N', xo1 K K' → RN K' N' → zk N N' → Q (some (.int (nI (v * 10 ^ (j - 1) % w * 10 / w)))) (xB h b K')) : ac g l mX11_point [.ref b, .int i] (xB h b K) Q := by
  refine ac_of (by decide) (Nat.le_of_ble_eq_true rfl) ?_
  have no : (∀ j, 1 ≤ j → j ≤ 300 → i ≠ nI j) → aw g l mX11_point 12 (lv_args 0 [.ref b, .int i]) [] (xB h b K) Q := fun z => by
    refine sX11_point_12 ?_
    exact sX11_point_13 (k0 z)
  rcases i32c i with z | ⟨j, rfl, hj⟩
  · refine sX11_point_0 rfl ?_
    refine sX11_point_1 ?_
    refine sX11_point_2 (fun _ => no (fun j h1 h2 e => ?_)) (fun y => absurd ?_ y)
    · rw [e] at z; exact absurd z (n_lt0 (by omega))
    · rw [Int32.lt_iff_toInt_lt] at z ⊢
      have e0 : (0 : Int32).toInt = 0 := by decide
      have e1 : (1 : Int32).toInt = 1 := by decide
      omega
  · refine sX11_point_0 rfl ?_
    refine nX11_point_1 ?_
    refine nX11_point_2 hj (by decide) (fun y => no (fun i h1 h2 e => ?_)) (fun y => ?_)
    · have := (nI_eq hj (by omega)).mp e; omega
    · refine sX11_point_5 rfl ?_
      refine nX11_point_6 ?_
      refine nX11_point_9 hj (by decide) (fun u => ?_) (fun u => no (fun i h1 h2 e => ?_))
      · refine sX11_point_14 rfl ?_
        refine nX11_point_15 ?_
        refine nX11_point_18 ?_
        refine nX11_point_21 ?_
        refine tX11_point_24 hS (Nat.le_of_ble_eq_true rfl) ?_
        refine c_divide hS hN (by decide) (by decide) (by decide) (by decide) (by decide) (by rw [hw]; exact hw0) (by rw [hw]; exact zB_2 hw2) (fun K1 o1 n1 => ?_)
        rw [hv, hw] at n1
        refine nX11_point_27 ?_
        refine sX11_point_28 ?_
        refine nX11_point_29 ?_
        refine sX11_point_30 ?_
        suffices Hl : ∀ f t r (K2 : Nat → Nat → Int32) (N2 : Nat → Nat) (lv0 : List (Nat × Value)), t + f = j → (t = 0 ∨ r = v * 10 ^ (t - 1) % w * 10 / w) → xo1 K K2 → RN K2 N2 → zk N N2 → N2 341 = v * 10 ^ t % w → (∀ z ∈ ([(0, .ref b), (1, .int (nI j)), (2, .int (nI r)), (3, .int (nI t))] : List (Nat × Value)), z ∈ lv0) → aw g l mX11_point 31 lv0 [] (xB h b K2) Q from Hl j 0 0 K1 _ _ (by omega) (Or.inl rfl) o1 n1 (zk_tr (zk_up (by decide)) (zk_up (by decide))) (by rw [vup_s, Nat.pow_zero, Nat.mul_one]) (fun z hz => by simp only [List.mem_cons, List.not_mem_nil, or_false] at hz; rcases hz with rfl | rfl | rfl | rfl <;> exact xlk_mem rfl)
        intro f
        induction f with
        | zero =>
          intro t r K2 N2 lv0 ht hr o2 n2 z2 e2 hlv
          refine aw_lv hlv ?_
          obtain rfl : t = j := by omega
          have hr' : r = v * 10 ^ (t - 1) % w * 10 / w := by
            rcases hr with s | s
            · omega
            · exact s
          refine sX11_point_31 rfl ?_
          refine sX11_point_32 rfl ?_
          refine nX11_point_33 (by omega) (by omega) (fun _ => ?_) (fun s => absurd s (by omega))
          refine sX11_point_83 rfl ?_
          rw [hr']
          exact sX11_point_84 (k1 t rfl y u K2 N2 o2 n2 z2)
        | succ f ih =>
          intro t r K2 N2 lv0 ht hr o2 n2 z2 e2 hlv
          refine aw_lv hlv ?_
          have hrw : v * 10 ^ t % w < w := Nat.mod_lt _ hw0
          have e135 : N2 135 = w := by rw [z2 135 (by decide)]; exact hw
          refine sX11_point_31 rfl ?_
          refine sX11_point_32 rfl ?_
          refine nX11_point_33 (by omega) (by omega) (fun s => absurd s (by omega)) (fun _ => ?_)
          refine sX11_point_36 rfl ?_
          refine nX11_point_37 ?_
          refine nX11_point_40 ?_
          refine nX11_point_42 ?_
          refine tX11_point_43 hS (Nat.le_of_ble_eq_true rfl) ?_
          refine c_multiplySmall hS n2 (by decide) (by decide) (by decide) (by rw [e2]; exact zB_10 (Nat.lt_trans hrw hw2)) (fun K3 o3 n3 => ?_)
          rw [e2] at n3
          have em : v * 10 ^ (t + 1) % w = v * 10 ^ t % w * 10 % w := by rw [mmm, Nat.mul_assoc, ← Nat.pow_succ]
          generalize hR : v * 10 ^ t % w = R at hrw n3 em
          refine nX11_point_46 ?_
          refine sX11_point_47 ?_
          suffices In : ∀ μ y' (K4 : Nat → Nat → Int32) (N4 : Nat → Nat) (lv1 : List (Nat × Value)), R * 10 - y' * w ≤ μ → y' * w ≤ R * 10 → y' ≤ 10 → xo1 K K4 → RN K4 N4 → zk N N4 → N4 341 = R * 10 - y' * w → (∀ z ∈ ([(0, .ref b), (1, .int (nI j)), (2, .int (nI y')), (3, .int (nI t))] : List (Nat × Value)), z ∈ lv1) → aw g l mX11_point 48 lv1 [] (xB h b K4) Q from In _ 0 K3 _ _ (Nat.le_refl _) (by omega) (by decide) (fun r hr => by rw [o3 r hr]; exact o2 r hr) n3 (zk_tr z2 (zk_up (by decide))) (by rw [vup_s]; omega) (fun z hz => by simp only [List.mem_cons, List.not_mem_nil, or_false] at hz; rcases hz with rfl | rfl | rfl | rfl <;> exact xlk_mem rfl)
          intro μ
          induction μ with
          | zero =>
            intro y' K4 N4 lv1 hμ hle hy o4 n4 z4 e4 hlv1
            refine aw_lv hlv1 ?_
            have e135' : N4 135 = w := by rw [z4 135 (by decide)]; exact hw
            have hq : R * 10 / w = y' := by
              rw [Nat.div_eq_iff hw0]
              constructor
              · rw [Nat.mul_comm] at hle ⊢; omega
              · rw [Nat.mul_comm y' w]; rw [Nat.mul_comm y' w] at hμ; omega
            have hmm : R * 10 % w = R * 10 - y' * w := by
              have := Nat.div_add_mod (R * 10) w
              rw [hq, Nat.mul_comm] at this
              omega
            refine sX11_point_48 rfl ?_
            refine nX11_point_49 ?_
            refine nX11_point_52 ?_
            refine tX11_point_55 hS (Nat.le_of_ble_eq_true rfl) ?_
            refine c_compare hS n4 (by decide) (by decide) (fun _ => ?_) (fun s => ?_) (fun s => ?_)
            · refine sX11_point_58 (fun _ => ?_) (fun s => absurd (by decide) s)
              refine nX11_point_77 rfl ?_
              refine sX11_point_80 ?_
              refine ih (t + 1) y' K4 N4 _ (by omega) (Or.inr ?_) o4 n4 z4 ?_ (fun z hz => by simp only [List.mem_cons, List.not_mem_nil, or_false] at hz; rcases hz with rfl | rfl | rfl | rfl <;> exact xlk_mem rfl)
              · rw [Nat.add_sub_cancel, hR]; exact hq.symm
              · rw [em, e4]; exact hmm.symm
            · rw [e4, e135'] at s; omega
            · rw [e4, e135'] at s; omega
          | succ μ ihm =>
            intro y' K4 N4 lv1 hμ hle hy o4 n4 z4 e4 hlv1
            refine aw_lv hlv1 ?_
            have e135' : N4 135 = w := by rw [z4 135 (by decide)]; exact hw
            have sub : w ≤ N4 341 → ∀ lv2 : List (Nat × Value), (∀ z ∈ ([(0, .ref b), (1, .int (nI j)), (2, .int (nI y')), (3, .int (nI t))] : List (Nat × Value)), z ∈ lv2) → aw g l mX11_point 61 lv2 [] (xB h b K4) Q := by
              intro hge lv2 hlv2
              refine aw_lv hlv2 ?_
              have es : (y' + 1) * w = y' * w + w := by rw [Nat.add_mul, Nat.one_mul]
              have hle2 : (y' + 1) * w ≤ R * 10 := by rw [es]; rw [e4] at hge; omega
              have hy10 : y' + 1 ≤ 10 := by
                rcases Nat.lt_or_ge 10 (y' + 1) with s | s
                · exfalso
                  have h1 : 11 * w ≤ (y' + 1) * w := Nat.mul_le_mul_right w s
                  omega
                · exact s
              refine sX11_point_61 rfl ?_
              refine nX11_point_62 ?_
              refine nX11_point_65 ?_
              refine tX11_point_68 hS (Nat.le_of_ble_eq_true rfl) ?_
              refine c_subtract hS n4 (by decide) (by decide) (by decide) (by rw [e135']; exact hge) (fun K5 o5 n5 => ?_)
              rw [e135', e4] at n5
              refine nX11_point_71 rfl ?_
              refine sX11_point_74 ?_
              refine ihm (y' + 1) K5 _ _ (by rw [es]; omega) hle2 hy10 (fun r hr => by rw [o5 r hr]; exact o4 r hr) n5 (zk_tr z4 (zk_up (by decide))) (by rw [vup_s, es]; omega) (fun z hz => by simp only [List.mem_cons, List.not_mem_nil, or_false] at hz; rcases hz with rfl | rfl | rfl | rfl <;> exact xlk_mem rfl)
            refine sX11_point_48 rfl ?_
            refine nX11_point_49 ?_
            refine nX11_point_52 ?_
            refine tX11_point_55 hS (Nat.le_of_ble_eq_true rfl) ?_
            refine c_compare hS n4 (by decide) (by decide) (fun s => ?_) (fun s => ?_) (fun s => ?_)
            · rw [e4, e135'] at s
              have hq : R * 10 / w = y' := by
                rw [Nat.div_eq_iff hw0]
                constructor
                · rw [Nat.mul_comm] at hle ⊢; omega
                · rw [Nat.mul_comm y' w]; rw [Nat.mul_comm y' w] at s; omega
              have hmm : R * 10 % w = R * 10 - y' * w := by
                have := Nat.div_add_mod (R * 10) w
                rw [hq, Nat.mul_comm] at this
                omega
              refine sX11_point_58 (fun _ => ?_) (fun s => absurd (by decide) s)
              refine nX11_point_77 rfl ?_
              refine sX11_point_80 ?_
              refine ih (t + 1) y' K4 N4 _ (by omega) (Or.inr ?_) o4 n4 z4 ?_ (fun z hz => by simp only [List.mem_cons, List.not_mem_nil, or_false] at hz; rcases hz with rfl | rfl | rfl | rfl <;> exact xlk_mem rfl)
              · rw [Nat.add_sub_cancel, hR]; exact hq.symm
              · rw [em, e4]; exact hmm.symm
            · refine sX11_point_58 (fun v => absurd v (by decide)) (fun _ => ?_)
              exact sub (by omega) _ (fun z hz => by simp only [List.mem_cons, List.not_mem_nil, or_false] at hz; rcases hz with rfl | rfl | rfl | rfl <;> exact xlk_mem rfl)
            · refine sX11_point_58 (fun v => absurd v (by decide)) (fun _ => ?_)
              exact sub (by omega) _ (fun z hz => by simp only [List.mem_cons, List.not_mem_nil, or_false] at hz; rcases hz with rfl | rfl | rfl | rfl <;> exact xlk_mem rfl)
      · have := (nI_eq hj (by omega)).mp e; omega
theorem c_times {p n : Nat} (hS : RS h b) (hN : RN K N) (hp2 : 2 ≤ p) (hp5 : p ≤ 5) (hn : N 336 = n) (hn0 : 0 < n) (hn2 : n < 2 ^ 512) (k : ∀ K' N' t q, xo1 K K' → RN K' N' → zk N N' → N' 336 = q → tko p n t q → t < 512 → Q (some (.int (nI t))) (xB h b K')) : ac g l mX11_times [.ref b, .int (nI p)] (xB h b K) Q := by
  refine ac_of (by decide) (Nat.le_of_ble_eq_true rfl) ?_
  refine nX11_times_0 ?_
  refine sX11_times_1 ?_
  suffices Hl : ∀ μ t q (K2 : Nat → Nat → Int32) (N2 : Nat → Nat) (lv0 : List (Nat × Value)), q ≤ μ → n = p ^ t * q → 0 < q → xo1 K K2 → RN K2 N2 → zk N N2 → N2 336 = q → (∀ z ∈ ([(0, .ref b), (1, .int (nI p)), (2, .int (nI t))] : List (Nat × Value)), z ∈ lv0) → aw g l mX11_times 2 lv0 [] (xB h b K2) Q from Hl n 0 n K N _ (Nat.le_refl _) (by rw [Nat.pow_zero, Nat.one_mul]) hn0 (fun _ _ => rfl) hN (zk_rf N) hn (fun z hz => by simp only [List.mem_cons, List.not_mem_nil, or_false] at hz; rcases hz with rfl | rfl | rfl <;> exact xlk_mem rfl)
  intro μ
  induction μ with
  | zero => intro t q K2 N2 lv0 h1 h2 h3; omega
  | succ μ ih =>
    intro t q K2 N2 lv0 hμ he hq o2 n2 z2 e2 hlv
    refine aw_lv hlv ?_
    have ht5 := tko_lt hp2 he hq hn2
    refine sX11_times_2 rfl ?_
    refine nX11_times_3 ?_
    refine nX11_times_6 ?_
    refine tX11_times_9 hS (Nat.le_of_ble_eq_true rfl) ?_
    refine c_copy hS n2 (by decide) (by decide) (by decide) (fun K3 o3 n3 => ?_)
    rw [e2] at n3
    refine sX11_times_12 rfl ?_
    refine nX11_times_13 ?_
    refine sX11_times_16 rfl ?_
    refine tX11_times_17 hS (Nat.le_of_ble_eq_true rfl) ?_
    refine c_divideSmall hS n3 (by decide) (by omega) (by omega) (fun K4 o4 n4 => ?_)
    rw [vup_s] at n4 ⊢
    have z4 : zk N (va_up (va_up N2 337 q) 337 (q / p)) := zk_tr z2 (zk_tr (zk_up (by decide)) (zk_up (by decide)))
    have hmod : q % p < 2 ^ 31 := Nat.lt_trans (Nat.mod_lt _ (by omega)) (by omega)
    refine nX11_times_20 hmod (fun y => ?_) (fun y => ?_)
    · refine sX11_times_25 rfl ?_
      refine nX11_times_26 ?_
      refine nX11_times_29 ?_
      refine tX11_times_32 hS (Nat.le_of_ble_eq_true rfl) ?_
      refine c_copy hS n4 (by decide) (by decide) (by decide) (fun K5 o5 n5 => ?_)
      rw [vup_s] at n5
      refine nX11_times_35 rfl ?_
      refine sX11_times_38 ?_
      refine ih (t + 1) (q / p) K5 _ _ ?_ (tko_s he y) ?_ (fun r hr => by rw [o5 r hr, o4 r hr, o3 r hr]; exact o2 r hr) n5 (zk_tr z4 (zk_up (by decide))) vup_s (fun z hz => by simp only [List.mem_cons, List.not_mem_nil, or_false] at hz; rcases hz with rfl | rfl | rfl <;> exact xlk_mem rfl)
      · have := Nat.div_lt_self hq (show 1 < p by omega); omega
      · rcases Nat.eq_zero_or_pos (q / p) with s | s
        · have := Nat.div_add_mod q p
          rw [s, y, Nat.mul_zero] at this
          omega
        · exact s
    · refine sX11_times_23 rfl ?_
      refine sX11_times_24 (k K4 _ t q (fun r hr => by rw [o4 r hr, o3 r hr]; exact o2 r hr) n4 z4 ?_ ⟨he, y⟩ ht5)
      rw [vup_n (by decide), vup_n (by decide)]; exact e2
theorem c_ends11 {w : Int32} {v : Nat} (hS : RS h b) (hN : RN K N) (hv : N 135 = v) (hv0 : 0 < v) (hv2 : v < 2 ^ 512) (k0 : (∀ j, j < 3 → w ≠ nI j) → Q (some (.int (-1))) (xB h b K)) (k1 : ∀ t q u q2 K' N', xo1 K K' → RN K' N' → zk N N' → tko 2 v t q → tko 5 q u q2 → (w = nI 0 → Q (some (.int (nI t))) (xB h b K')) ∧ (w = nI 1 → Q (some (.int (nI u))) (xB h b K')) ∧ (w = nI 2 → Q (some (.int (if q2 = 1 then 1 else 0))) (xB h b K'))) : ac g l mX11_ends [.ref b, .int w] (xB h b K) Q := by
  refine ac_of (by decide) (Nat.le_of_ble_eq_true rfl) ?_
  have no : (∀ j, j < 3 → w ≠ nI j) → aw g l mX11_ends 9 (lv_args 0 [.ref b, .int w]) [] (xB h b K) Q := fun z => by
    refine sX11_ends_9 ?_
    exact sX11_ends_10 (k0 z)
  refine sX11_ends_0 rfl ?_
  rcases i32c w with z | ⟨j, rfl, hj⟩
  · refine sX11_ends_1 (fun _ => no (fun j hj e => ?_)) (fun y => absurd z y)
    rw [e] at z; exact absurd z (n_lt0 (by omega))
  · refine nX11_ends_1 hj ?_
    refine sX11_ends_4 rfl ?_
    refine nX11_ends_5 ?_
    refine nX11_ends_6 hj (by decide) (fun y => ?_) (fun y => no (fun i hi e => ?_))
    · refine sX11_ends_11 rfl ?_
      refine nX11_ends_12 ?_
      refine nX11_ends_15 ?_
      refine tX11_ends_18 hS (Nat.le_of_ble_eq_true rfl) ?_
      refine c_copy hS hN (by decide) (by decide) (by decide) (fun K1 o1 n1 => ?_)
      rw [hv] at n1
      refine sX11_ends_21 rfl ?_
      refine nX11_ends_22 ?_
      refine tX11_ends_23 hS (Nat.le_of_ble_eq_true rfl) ?_
      refine c_times hS n1 (by decide) (by decide) vup_s hv0 hv2 (fun K2 N2 t q o2 n2 z2 e2 h2 ht => ?_)
      have hq0 : 0 < q := by
        rcases Nat.eq_zero_or_pos q with s | s
        · have := h2.2; rw [s] at this; exact absurd rfl this
        · exact s
      have hq : q < 2 ^ 512 := by
        refine Nat.lt_of_le_of_lt ?_ hv2
        rw [h2.1]
        exact Nat.le_mul_of_pos_left _ (Nat.pow_pos (by decide))
      refine sX11_ends_26 ?_
      refine sX11_ends_27 rfl ?_
      refine nX11_ends_28 ?_
      refine tX11_ends_29 hS (Nat.le_of_ble_eq_true rfl) ?_
      refine c_times hS n2 (by decide) (by decide) e2 hq0 hq (fun K3 N3 u q2 o3 n3 z3 e3 h5 hu => ?_)
      obtain ⟨a1, a2, a3⟩ := k1 t q u q2 K3 N3 (fun r hr => by rw [o3 r hr, o2 r hr]; exact o1 r hr) n3 (zk_tr (zk_up (by decide)) (zk_tr z2 z3)) h2 h5
      refine sX11_ends_32 ?_
      refine sX11_ends_33 rfl ?_
      refine nX11_ends_34 hj (fun s => ?_) (fun s => ?_)
      · refine sX11_ends_41 rfl ?_
        refine nX11_ends_42 ?_
        refine nX11_ends_43 hj (by decide) (fun s2 => ?_) (fun s2 => ?_)
        · have kq := a3 (by rw [show j = 2 by omega])
          refine sX11_ends_50 rfl ?_
          refine nX11_ends_51 ?_
          refine tX11_ends_54 hS (Nat.le_of_ble_eq_true rfl) ?_
          refine c_isOne hS n3 (by decide) (fun w1 => ?_) (fun w1 => ?_)
          · rw [if_pos (e3.symm.trans w1)] at kq
            refine sX11_ends_57 (fun s => absurd s (by decide)) (fun _ => ?_)
            refine sX11_ends_60 ?_
            refine sX11_ends_61 ?_
            exact sX11_ends_65 kq
          · rw [if_neg (fun w2 => w1 (e3.trans w2))] at kq
            refine sX11_ends_57 (fun _ => ?_) (fun s => absurd rfl s)
            refine sX11_ends_64 ?_
            exact sX11_ends_65 kq
        · subst s2
          refine sX11_ends_46 rfl ?_
          refine sX11_ends_47 ?_
          exact sX11_ends_65 (a2 rfl)
      · subst s
        refine sX11_ends_37 rfl ?_
        refine sX11_ends_38 ?_
        exact sX11_ends_65 (a1 rfl)
    · have := (nI_eq hj (by omega)).mp e; omega
theorem c_alike11 {i : Int32} (hI : RI h b K B c D E ts tp V fl gv) (hD : DB c D) (k0 : (∀ k, k < c → alk D E V k → i ≠ nI (ct (alk D E V) k)) → Q (some (.int (-1))) (xB h b K)) (k1 : ∀ k, k < c → alk D E V k → i = nI (ct (alk D E V) k) → Q (some (.int (nI k))) (xB h b K)) : ac g l mX11_alike [.ref b, .int i] (xB h b K) Q := by
  refine ac_of (by decide) (Nat.le_of_ble_eq_true rfl) ?_
  obtain ⟨hS, hB, ⟨N, S, hX, hS67, hRK⟩, -, h6, hRB, -, -, -⟩ := hI
  have hc := hD.1
  have hP0 : ∀ k, alk D E V k ↔ alk D E V k := fun _ => Iff.rfl
  have cl := ct_le (alk D E V)
  refine nX11_alike_0 ?_
  refine sX11_alike_1 ?_
  refine nX11_alike_2 ?_
  refine sX11_alike_3 ?_
  suffices Hl : ∀ f k (lv0 : List (Nat × Value)), k + f = c → (∀ q, q < k → alk D E V q → i ≠ nI (ct (alk D E V) q)) → (∀ z ∈ ([(0, .ref b), (1, .int i), (2, .int (nI (ct (alk D E V) k))), (3, .int (nI k))] : List (Nat × Value)), z ∈ lv0) → aw g l mX11_alike 4 lv0 [] (xB h b K) Q from Hl c 0 _ (by omega) (fun q hq => by omega) (fun z hz => by simp only [List.mem_cons, List.not_mem_nil, or_false] at hz; rcases hz with rfl | rfl | rfl | rfl <;> exact xlk_mem rfl)
  intro f
  induction f with
  | zero =>
    intro k lv0 hk ho hlv
    refine aw_lv hlv ?_
    refine sX11_alike_4 rfl ?_
    refine sX11_alike_5 rfl ?_
    refine tX11_alike_6 hS ?_
    rw [h6]
    refine nX11_alike_9 (by omega) (by omega) (fun _ => ?_) (fun z => absurd z (by omega))
    refine sX11_alike_63 ?_
    exact sX11_alike_64 (k0 (fun q hq => ho q (by omega)))
  | succ f ih =>
    intro k lv0 hk ho hlv
    refine aw_lv hlv ?_
    have ck := cl k
    obtain ⟨c1, -⟩ := hRB k (by omega)
    have hs2 := (hD.2.1 k (by omega)).1
    obtain ⟨r, er, f1, f2, f3, f4⟩ := hRK k (by omega)
    have nope : ∀ lv1 : List (Nat × Value), ¬ alk D E V k → (∀ z ∈ ([(0, .ref b), (1, .int i), (2, .int (nI (ct (alk D E V) k))), (3, .int (nI k))] : List (Nat × Value)), z ∈ lv1) → aw g l mX11_alike 57 lv1 [] (xB h b K) Q := by
      intro lv1 na hlv1
      refine aw_lv hlv1 ?_
      refine nX11_alike_57 rfl ?_
      refine sX11_alike_60 ?_
      refine ih (k + 1) _ (by omega) (fun q hq hp => ?_) ?_
      · rcases Nat.eq_or_lt_of_le (Nat.le_of_lt_succ hq) with w | w
        · rw [w] at hp; exact absurd hp na
        · exact ho q w hp
      · rw [ct_n na]; exact (fun z hz => by simp only [List.mem_cons, List.not_mem_nil, or_false] at hz; rcases hz with rfl | rfl | rfl | rfl <;> exact xlk_mem rfl)
    refine sX11_alike_4 rfl ?_
    refine sX11_alike_5 rfl ?_
    refine tX11_alike_6 hS ?_
    rw [h6]
    refine nX11_alike_9 (by omega) (by omega) (fun z => absurd z (by omega)) (fun _ => ?_)
    refine sX11_alike_12 rfl ?_
    refine tX11_alike_13 hS ?_
    refine sX11_alike_16 rfl ?_
    refine tX11_alike_17 hS (by decide) (by decide) rfl (show k < 210 by omega) ?_
    rw [c1]
    refine nX11_alike_18 ?_
    refine nX11_alike_19 (by omega) (by decide) (fun z => nope _ (fun a => a.1 z) (fun z hz => by simp only [List.mem_cons, List.not_mem_nil, or_false] at hz; rcases hz with rfl | rfl | rfl | rfl <;> exact xlk_mem rfl)) (fun z => ?_)
    refine sX11_alike_22 rfl ?_
    refine tX11_alike_23 hS ?_
    refine sX11_alike_26 rfl ?_
    refine tX11_alike_27 hS (by decide) (by decide) rfl (show k < 210 by omega) ?_
    rw [f1]
    refine nX11_alike_28 (by omega) (fun y => nope _ (fun a => ?_) (fun z hz => by simp only [List.mem_cons, List.not_mem_nil, or_false] at hz; rcases hz with rfl | rfl | rfl | rfl <;> exact xlk_mem rfl)) (fun y => ?_)
    · obtain ⟨-, v, ev, -⟩ := a
      have := Option.some.inj (er.symm.trans ev)
      rw [this] at y
      exact y rfl
    · have er' : E k = some (0, r.2) := by rw [er, ← y]
      have es := (f4 y).1
      refine sX11_alike_31 rfl ?_
      refine nX11_alike_32 ?_
      refine sX11_alike_34 rfl ?_
      refine nX11_alike_35 ?_
      refine nX11_alike_36 ?_
      refine tX11_alike_38 hS (Nat.le_of_ble_eq_true rfl) ?_
      refine c_areAlike (p := r.2.2.2.2) (q := V.2.2.2) hS (by omega) (by decide) (fun j hj => by rw [← es]; exact (hX.2 (68 + k) (by omega)).2.2.2 j hj) (fun j hj => by rw [← hS67]; exact (hX.2 67 (by decide)).2.2.2 j hj) (fun w => ?_) (fun w => ?_)
      · have a : alk D E V k := ⟨z, r.2, er', w⟩
        refine sX11_alike_41 (fun _ => ?_) (fun v => absurd v (by decide))
        refine sX11_alike_47 rfl ?_
        refine sX11_alike_48 rfl ?_
        refine sX11_alike_49 (fun v => ?_) (fun v => ?_)
        · refine nX11_alike_54 rfl ?_
          refine nX11_alike_57 rfl ?_
          refine sX11_alike_60 ?_
          refine ih (k + 1) _ (by omega) (fun q hq hp => ?_) ?_
          · rcases Nat.eq_or_lt_of_le (Nat.le_of_lt_succ hq) with u | u
            · rw [u]; exact fun e => v e.symm
            · exact ho q u hp
          · rw [ct_y a]; exact (fun z hz => by simp only [List.mem_cons, List.not_mem_nil, or_false] at hz; rcases hz with rfl | rfl | rfl | rfl <;> exact xlk_mem rfl)
        · refine sX11_alike_52 rfl ?_
          exact sX11_alike_53 (k1 k (by omega) a v.symm)
      · refine sX11_alike_41 (fun v => absurd rfl v) (fun _ => ?_)
        refine sX11_alike_44 ?_
        refine nope _ (fun a => ?_) (fun z hz => by simp only [List.mem_cons, List.not_mem_nil, or_false] at hz; rcases hz with rfl | rfl | rfl | rfl <;> exact xlk_mem rfl)
        obtain ⟨-, v, ev, pe⟩ := a
        have e1 := Option.some.inj (er'.symm.trans ev)
        have e2 : r.2 = v := congrArg Prod.snd e1
        rw [← e2] at pe
        exact w pe
end RDec
