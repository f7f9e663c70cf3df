section Nat1
variable {g : xG} {l : Launch} {h : xH} {J : Nat → Nat → Int32} {Q : Option Value → xH → Prop}
theorem c_trim {a c v s : Nat} (hC : CN h a c) (hc : c < 2 ^ 31) (hN : NR J a c v s) (k : ∀ J', yo a J J' → NJ J' a c v → Q none (xJ h J')) : ac g l mX5_trim [.ref a] (xJ h J) Q := by
  refine ac_of (by decide) (Nat.le_of_ble_eq_true rfl) ?_
  obtain ⟨t1, t2, t3⟩ := hC
  suffices H : ∀ s J1, yo a J J1 → NR J1 a c v s → aw g l mX5_trim 0 [(0, .ref a)] [] (xJ h J1) Q from H s J (yo_rf a J) hN
  intro s
  induction s with
  | zero =>
    intro J1 ho hN1
    obtain ⟨h1, h2, h3, h4⟩ := id hN1
    refine sX5_trim_0 rfl ?_
    refine jX5_trim_1 (by assumption) ?_
    rw [h3]
    refine nX5_trim_4 (by omega) (fun _ => ?_) (fun hc => absurd hc (by omega))
    refine sX5_trim_34 ?_
    exact k J1 ho ⟨0, hN1, h2, Or.inl rfl⟩
  | succ s ih =>
    intro J1 ho hN1
    obtain ⟨h1, h2, h3, h4⟩ := id hN1
    refine sX5_trim_0 rfl ?_
    refine jX5_trim_1 (by assumption) ?_
    rw [h3]
    refine nX5_trim_4 (by omega) (fun hc => absurd hc (by omega)) (fun _ => ?_)
    refine sX5_trim_7 rfl ?_
    refine jX5_trim_8 (by assumption) (by assumption) ?_
    refine sX5_trim_11 rfl ?_
    refine jX5_trim_12 (by assumption) ?_
    rw [h3]
    refine nX5_trim_15 ?_
    refine nX5_trim_16 (by omega) ?_
    rw [Nat.add_sub_cancel]
    refine jX5_trim_17 (by assumption) (by omega) (by omega) ?_
    rw [h4 s (by omega)]
    have hg := yg_lt v s
    refine nX5_trim_18 (by omega) (fun hc => ?_) (fun hc => ?_)
    · refine sX5_trim_34 ?_
      exact k J1 ho ⟨s + 1, hN1, yl_of h2 (Or.inr (by rw [Nat.add_sub_cancel]; omega))⟩
    · refine sX5_trim_21 rfl ?_
      refine sX5_trim_22 rfl ?_
      refine jX5_trim_23 (by assumption) ?_
      rw [h3]
      refine nX5_trim_26 ?_
      refine nX5_trim_27 (by omega) ?_
      rw [Nat.add_sub_cancel]
      refine jX5_trim_28 (by assumption) ?_
      refine sX5_trim_31 ?_
      refine ih _ (yo_tr ho yo_s) ⟨by omega, ?_, by rw [xup2_s], fun i hi => by rw [xup2_r (by omega)]; exact h4 i (by omega)⟩
      refine yh_lt ?_
      rw [yh_eq v s, yh_small h2, hc]
theorem c_setSmall5 {a c v : Nat} (hC : CN h a c) (hc0 : 0 < c) (hc : c < 2 ^ 31) (hv : v < 1073741824) (k : ∀ J', yo a J J' → NJ J' a c v → Q none (xJ h J')) : ac g l mX5_setSmall [.ref a, .int (nI v)] (xJ h J) Q := by
  refine ac_of (by decide) (Nat.le_of_ble_eq_true rfl) ?_
  obtain ⟨t1, t2, t3⟩ := hC
  refine sX5_setSmall_0 rfl ?_
  refine jX5_setSmall_1 (by assumption) (by assumption) ?_
  refine nX5_setSmall_4 ?_
  refine sX5_setSmall_5 rfl ?_
  refine sX5_setSmall_6 ?_
  refine sX5_setSmall_8 ?_
  rw [nI_mask (by omega), Nat.mod_eq_of_lt hv]
  refine jX5_setSmall_9 (by assumption) (by omega) (by omega) ?_
  refine sX5_setSmall_10 rfl ?_
  refine sX5_setSmall_11 rfl ?_
  refine jX5_setSmall_12 (by assumption) (by assumption) ?_
  refine nX5_setSmall_15 ?_
  refine jX5_setSmall_16 (by assumption) (by omega) (by omega) ?_
  rw [xup2_s]
  have hvB : v < yB 1 := by rw [show yB 1 = 1073741824 from rfl]; exact hv
  refine nX5_setSmall_17 (by omega) (fun hz => ?_) (fun hz => ?_)
  · refine nX5_setSmall_24 ?_
    refine jX5_setSmall_25 (by assumption) ?_
    refine sX5_setSmall_28 ?_
    refine k _ (yo_tr yo_l yo_s) ⟨1, ⟨by omega, hvB, by rw [xup2_s], fun i hi => ?_⟩, hvB, Or.inr ?_⟩
    · obtain rfl : i = 0 := by omega
      rw [xup2_r (by omega), xup2_s, yg_small hv, if_pos rfl]
    · show 1 ≤ v; omega
  · refine nX5_setSmall_20 ?_
    refine sX5_setSmall_21 ?_
    refine jX5_setSmall_25 (by assumption) ?_
    refine sX5_setSmall_28 ?_
    subst hz
    refine k _ (yo_tr yo_l yo_s) ⟨0, ⟨by omega, by decide, by rw [xup2_s], fun i hi => absurd hi (by omega)⟩, by decide, Or.inl rfl⟩
theorem c_isOne5 {a c v : Nat} (hC : CN h a c) (hc : c < 2 ^ 31) (hN : NJ J a c v) (k1 : v = 1 → Q (some (.int 1)) (xJ h J)) (k0 : v ≠ 1 → Q (some (.int 0)) (xJ h J)) : ac g l mX5_isOne [.ref a] (xJ h J) Q := by
  refine ac_of (by decide) (Nat.le_of_ble_eq_true rfl) ?_
  obtain ⟨t1, t2, t3⟩ := hC
  obtain ⟨s, ⟨h1, h2, h3, h4⟩, hl⟩ := hN
  have no : v ≠ 1 → aw g l mX5_isOne 22 (lv_args 0 [.ref a]) [] (xJ h J) Q := by
    intro hv
    refine sX5_isOne_22 ?_
    exact sX5_isOne_23 (Or.inl rfl) (k0 hv)
  refine sX5_isOne_0 rfl ?_
  refine jX5_isOne_1 (by assumption) ?_
  rw [h3]
  refine nX5_isOne_4 ?_
  refine nX5_isOne_5 (by omega) (by omega) (fun hs => no (fun hv => hs ?_)) (fun hs => ?_)
  · subst hv
    have a1 : s ≤ 1 := yl_le hl (by decide)
    have a2 := yl_pos hl (by decide)
    omega
  · subst hs
    refine sX5_isOne_8 rfl ?_
    refine jX5_isOne_9 (by assumption) (by assumption) ?_
    refine nX5_isOne_12 ?_
    refine jX5_isOne_13 (by assumption) (by omega) (by omega) ?_
    rw [h4 0 (by omega)]
    have hg := yg_lt v 0
    have e0 : yg v 0 = v := by
      have := yh_eq v 0
      rw [yh_small h2, yh_0] at this
      omega
    rw [e0]
    refine nX5_isOne_14 ?_
    refine nX5_isOne_15 (by omega) (by omega) (fun hv => no hv) (fun hv => ?_)
    refine sX5_isOne_18 ?_
    refine sX5_isOne_19 ?_
    exact sX5_isOne_23 (Or.inr rfl) (k1 hv)
theorem c_compare5 {a b c d v w : Nat} (hA : CN h a c) (hB : CN h b d) (hc : c < 2 ^ 31) (hd : d < 2 ^ 31) (hN : NJ J a c v) (hM : NJ J b d w) (kl : v < w → Q (some (.int (-1))) (xJ h J)) (ke : v = w → Q (some (.int 0)) (xJ h J)) (kg : w < v → Q (some (.int 1)) (xJ h J)) : ac g l mX5_compare [.ref a, .ref b] (xJ h J) Q := by
  refine ac_of (by decide) (Nat.le_of_ble_eq_true rfl) ?_
  obtain ⟨t1, t2, t3⟩ := hA
  obtain ⟨u1, u2, u3⟩ := hB
  obtain ⟨s, ⟨h1, h2, h3, h4⟩, hl⟩ := hN
  obtain ⟨r, ⟨g1, g2, g3, g4⟩, gl⟩ := hM
  refine sX5_compare_0 rfl ?_
  refine jX5_compare_1 (by assumption) ?_
  rw [h3]
  refine sX5_compare_4 rfl ?_
  refine jX5_compare_5 (by assumption) ?_
  rw [g3]
  have less : ∀ {x y p q : Nat}, yl x p → yl y q → p < q → x < y := by
    intro x y p q hx hy hpq
    have e1 : yB p ≤ yB (q - 1) := Nat.pow_le_pow_right (by decide) (by omega)
    have e2 : yB (q - 1) ≤ y := hy.2.resolve_left (by omega)
    have := hx.1
    omega
  refine nX5_compare_8 (by omega) (by omega) (fun hs => ?_) (fun hs => ?_)
  · subst hs
    refine sX5_compare_28 rfl ?_
    refine jX5_compare_29 (by assumption) ?_
    rw [h3]
    refine sX5_compare_32 ?_
    refine sX5_compare_33 ?_
    refine sX5_compare_34 ?_
    suffices H : ∀ t lv0, t ≤ s → yh v t = yh w t → (∀ q ∈ ([(0, .ref a), (1, .ref b), (2, .int (nI t - 1))] : List (Nat × Value)), q ∈ lv0) → aw g l mX5_compare 35 lv0 [] (xJ h J) Q from H s _ (Nat.le_refl _) (by rw [yh_small h2, yh_small g2]) (fun q hq => hq)
    intro t
    induction t with
    | zero =>
      intro lv0 ht he hlv
      refine aw_lv hlv ?_
      refine sX5_compare_35 rfl ?_
      refine sX5_compare_36 (fun _ => ?_) (fun hc => absurd nI_0m hc)
      refine sX5_compare_81 ?_
      refine sX5_compare_82 (ke ?_)
      rwa [yh_0, yh_0] at he
    | succ t ih =>
      intro lv0 ht he hlv
      refine aw_lv hlv ?_
      rw [nI_pred]
      refine sX5_compare_35 rfl ?_
      refine nX5_compare_36 (by omega) ?_
      refine sX5_compare_39 rfl ?_
      refine jX5_compare_40 (by assumption) (by assumption) ?_
      refine sX5_compare_43 rfl ?_
      refine jX5_compare_44 (by assumption) (by omega) (by omega) ?_
      rw [h4 t (by omega)]
      refine sX5_compare_45 rfl ?_
      refine jX5_compare_46 (by assumption) (by assumption) ?_
      refine sX5_compare_49 rfl ?_
      refine jX5_compare_50 (by assumption) (by omega) (by omega) ?_
      rw [g4 t (by omega)]
      have hg1 := yg_lt v t
      have hg2 := yg_lt w t
      have e1 := yh_eq v t
      have e2 := yh_eq w t
      refine nX5_compare_51 (by omega) (by omega) (fun hc => ?_) (fun hc => ?_)
      · refine sX5_compare_75 rfl ?_
        refine sX5_compare_78 ?_
        rw [nI_m1]
        exact ih _ (by omega) (by omega) (fun q hq => by
          simp only [List.mem_cons, List.not_mem_nil, or_false] at hq
          rcases hq with rfl | rfl | rfl <;> exact xlk_mem rfl)
      · refine sX5_compare_54 rfl ?_
        refine jX5_compare_55 (by assumption) (by assumption) ?_
        refine sX5_compare_58 rfl ?_
        refine jX5_compare_59 (by assumption) (by omega) (by omega) ?_
        rw [h4 t (by omega)]
        refine sX5_compare_60 rfl ?_
        refine jX5_compare_61 (by assumption) (by assumption) ?_
        refine sX5_compare_64 rfl ?_
        refine jX5_compare_65 (by assumption) (by omega) (by omega) ?_
        rw [g4 t (by omega)]
        refine nX5_compare_66 (by omega) (by omega) (fun hc2 => ?_) (fun hc2 => ?_)
        · refine sX5_compare_73 ?_
          exact sX5_compare_74 (kg (yh_less (k := t) (by omega)))
        · refine sX5_compare_69 ?_
          refine sX5_compare_70 ?_
          exact sX5_compare_74 (kl (yh_less (k := t) (by omega)))
  · refine sX5_compare_11 rfl ?_
    refine jX5_compare_12 (by assumption) ?_
    rw [h3]
    refine sX5_compare_15 rfl ?_
    refine jX5_compare_16 (by assumption) ?_
    rw [g3]
    refine nX5_compare_19 (by omega) (by omega) (fun hc2 => ?_) (fun hc2 => ?_)
    · refine sX5_compare_26 ?_
      exact sX5_compare_27 (kg (less gl hl (by omega)))
    · refine sX5_compare_22 ?_
      refine sX5_compare_23 ?_
      exact sX5_compare_27 (kl (less hl gl (by omega)))
theorem c_copy5 {a b c d v : Nat} (hA : CN h a c) (hB : CN h b d) (hc : c < 2 ^ 31) (hd : d < 2 ^ 31) (hne : b ≠ a) (hM : NJ J b d v) (hv : v < yB c) (k : ∀ J', yo a J J' → NJ J' a c v → Q none (xJ h J')) : ac g l mX5_copy [.ref a, .ref b] (xJ h J) Q := by
  refine ac_of (by decide) (Nat.le_of_ble_eq_true rfl) ?_
  obtain ⟨n1, n2, n3⟩ := CN_ne hA hB hne
  obtain ⟨t1, t2, t3⟩ := hA
  obtain ⟨u1, u2, u3⟩ := hB
  obtain ⟨r, ⟨g1, g2, g3, g4⟩, gl⟩ := hM
  have hrc := yl_le gl hv
  refine sX5_copy_0 rfl ?_
  refine sX5_copy_1 rfl ?_
  refine jX5_copy_2 (by assumption) ?_
  rw [g3]
  refine sX5_copy_5 rfl ?_
  refine jX5_copy_6 (by assumption) (by assumption) ?_
  refine jX5_copy_9 (by assumption) ?_
  refine mX5_copy_10n (Nat.le_of_ble_eq_true rfl) (by omega) (by omega) ?_
  rw [Nat.min_eq_left hrc]
  refine jX5_copy_13 (by assumption) ?_
  refine sX5_copy_16 rfl ?_
  refine jX5_copy_17 (by assumption) (by assumption) ?_
  refine nX5_copy_20 ?_
  refine sX5_copy_21 rfl ?_
  refine jX5_copy_22 (by assumption) (by assumption) ?_
  refine nX5_copy_25 ?_
  refine sX5_copy_26 rfl ?_
  refine jX5_copy_27 (by assumption) ?_
  rw [xup2_s]
  refine sX5_copy_30 (kd := 100) (Nat.le_of_ble_eq_true rfl) (Or.inl rfl) (congrArg Prod.fst u3) (congrArg Prod.fst t3) (nI_pos (by decide)) (nI_pos (by decide)) (nI_pos (by omega)) ?_ ?_ (fun e => by cases e) ?_
  · show (nI 0).toNatClampNeg + (nI r).toNatClampNeg ≤ (xT h (b + 1)).2
    rw [u3, nI_clamp (by decide), nI_clamp (by omega)]; show 0 + r ≤ d; omega
  · show (nI 0).toNatClampNeg + (nI r).toNatClampNeg ≤ (xT h (a + 1)).2
    rw [t3, nI_clamp (by decide), nI_clamp (by omega)]; show 0 + r ≤ c; omega
  rw [nI_clamp (show 0 < 2 ^ 31 by decide), nI_clamp (show r < 2 ^ 31 by omega)]
  show aw g l mX5_copy 33 _ [] (xJ h (va_up (xup2 J a 1 (nI r)) (a + 1) (va_cpy (xup2 J a 1 (nI r) (b + 1)) (xup2 J a 1 (nI r) (a + 1)) 0 0 r))) Q
  refine sX5_copy_33 ?_
  refine k _ (fun q p1 p2 => ?_) ⟨r, ⟨hrc, g2, ?_, fun i hi => ?_⟩, gl⟩
  · rw [vup_n p2, xup2_r p1]
  · rw [vup_n (by omega), xup2_s]
  · rw [vup_s, pk_cpy_in (by omega) (by omega), xup2_r n2]
    rw [show 0 + (i - 0) = i by omega]
    exact g4 i hi
end Nat1
