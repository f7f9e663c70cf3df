noncomputable def cIf {α : Type} (p : Prop) (a c : α) : α := @ite α p (Classical.propDecidable p) a c
theorem cIf_t {α : Type} {p : Prop} {a c : α} (h : p) : cIf p a c = a := by unfold cIf; exact if_pos h
theorem cIf_f {α : Type} {p : Prop} {a c : α} (h : ¬ p) : cIf p a c = c := by unfold cIf; exact if_neg h
noncomputable def vFin (B : Nat) (z : Vl) : Nat × Vl := cIf (vBig B z) (9, z) (0, z)
noncomputable def vMul (B : Nat) (x y : Vl) : Nat × Vl := cIf (pOk (fun k => x.2.2.2 k + y.2.2.2 k)) (vFin B (vRed (x.1 * y.1, x.2.1 * y.2.1, x.2.2.1 * y.2.2.1, fun k => x.2.2.2 k + y.2.2.2 k))) (8, x)
noncomputable def vDiv (B : Nat) (x y : Vl) : Nat × Vl := cIf (y.1 = 0) (6, x) (cIf (pOk (fun k => x.2.2.2 k + -y.2.2.2 k)) (vFin B (vRed (x.1 * y.1, x.2.1 * y.2.2.1, x.2.2.1 * y.2.1, fun k => x.2.2.2 k + -y.2.2.2 k))) (8, x))
noncomputable def vSum (x y : Vl) (s : Int32) : Vl := cIf (x.1 = 0 ∨ s = 0 ∨ x.1 = s) (cIf (x.1 = 0) s x.1, x.2.1 * y.2.2.1 + y.2.1 * x.2.2.1, x.2.2.1 * y.2.2.1, x.2.2.2) (cIf (y.2.1 * x.2.2.1 ≤ x.2.1 * y.2.2.1) (x.1, x.2.1 * y.2.2.1 - y.2.1 * x.2.2.1, x.2.2.1 * y.2.2.1, x.2.2.2) (s, y.2.1 * x.2.2.1 - x.2.1 * y.2.2.1, x.2.2.1 * y.2.2.1, x.2.2.2))
noncomputable def vAdd (B : Nat) (x y : Vl) (s : Int32) : Nat × Vl := cIf (pEq x.2.2.2 y.2.2.2) (vFin B (vRed (vSum x y s))) (7, x)
/-- what a value of the reckoning is -/
def vWf (x : Vl) : Prop := 0 < x.2.2.1 ∧ x.2.1 < 2 ^ 512 ∧ x.2.2.1 < 2 ^ 512 ∧ (x.1 = 0 ↔ x.2.1 = 0) ∧ (x.1 = -1 ∨ x.1 = 0 ∨ x.1 = 1) ∧ Nat.gcd x.2.1 x.2.2.1 = 1 ∧ pOk x.2.2.2
theorem zprod {x y : Nat} (hx : x < 2 ^ 512) (hy : y < 2 ^ 512) : x * y < 2 ^ 1024 := by
  have : x * y < 2 ^ 512 * 2 ^ 512 := Nat.mul_lt_mul'' hx hy
  rwa [← Nat.pow_add] at this
theorem zB_80 : zB 80 = 2 ^ 1200 := zB_two 80
theorem z1024 : 2 ^ 1024 * 4 ≤ zB 80 := by rw [zB_80]; decide +kernel
def vPost (r : Nat × Vl) (K' : Nat → Nat → Int32) (N' : Nat → Nat) (S : Nat → Vl) (v : Nat) : Prop := (∃ x', RX K' N' (va_up S v x')) ∧ (r.1 = 0 → RX K' N' (va_up S v r.2))
section RefOps
variable {g : xG} {l : Launch} {h : xH} {b : Nat} {K : Nat → Nat → Int32} {N : Nat → Nat} {S : Nat → Vl} {Q : Option Value → xH → Prop}
theorem c_product {v w B : Nat} (hS : RS h b) (hX : RX K N S) (hv : v < 168) (hw : w < 168) (hne : w ≠ v) (hB : K 0 0 = nI B) (hB2 : B ≤ 512) (hx : vWf (S v)) (hy : vWf (S w)) (k : ∀ K' N', xo3 K K' → vPost (vMul B (S v) (S w)) K' N' S v → Q (some (.int (nI (vMul B (S v) (S w)).1))) (xB h b K')) : ac g l mX11_product [.ref b, .int (nI v), .int (nI w), .int 0] (xB h b K) Q := by
  refine ac_of (by decide) (Nat.le_of_ble_eq_true rfl) ?_
  obtain ⟨w1, w2, w3, w4⟩ := hX.2 w hw
  refine sX11_product_0 rfl ?_
  refine sX11_product_1 (fun _ => ?_) (fun hc => absurd rfl hc)
  refine nX11_product_16 ?_
  refine sX11_product_17 ?_
  suffices H : ∀ t i K3 N3 p, i + t = 8 → (∀ j, j < 8 → p j = if j < i then (S v).2.2.2 j + (S w).2.2.2 j else (S v).2.2.2 j) → xo3 K K3 → RX K3 N3 (va_up S v (vP (S v) p)) → aw g l mX11_product 19 [(0, .ref b), (1, .int (nI v)), (2, .int (nI w)), (3, .int 0), (4, .int (nI i))] [] (xB h b K3) Q from H 8 0 K N (S v).2.2.2 rfl (fun j hj => by rw [if_neg (by omega)]) (xo3_rf K) (by
      show RX K N (va_up S v (S v))
      rw [vup_id]; exact hX)
  intro t
  induction t with
  | succ t ih =>
    intro i K3 N3 p hi hp ho3 hR
    refine sX11_product_19 rfl ?_
    refine nX11_product_21 ?_
    refine nX11_product_23 (by omega) (by omega) (fun hc => absurd hc (by omega)) (fun _ => ?_)
    refine sX11_product_26 rfl ?_
    refine tX11_product_27 hS ?_
    refine nX11_product_30 ?_
    refine sX11_product_32 rfl ?_
    refine nX11_product_33 ?_
    refine sX11_product_34 rfl ?_
    refine nX11_product_36 ?_
    refine sX11_product_37 rfl rfl ?_
    refine tX11_product_38 hS (by decide) (by decide) rfl (by simp only [rl]; omega) ?_
    have e0 := (hR.2 v hv).2.2.2 i (by omega)
    have e1 := (hR.2 w hw).2.2.2 i (by omega)
    rw [vup_s] at e0
    rw [vup_n hne] at e1
    rw [e0]
    refine sX11_product_39 rfl ?_
    refine sX11_product_40 (fun _ => ?_) (fun hc => absurd rfl hc)
    refine sX11_product_59 rfl ?_
    refine tX11_product_60 hS ?_
    refine nX11_product_63 ?_
    refine sX11_product_65 rfl ?_
    refine nX11_product_66 ?_
    refine sX11_product_67 rfl ?_
    refine nX11_product_69 ?_
    refine tX11_product_70 hS (by decide) (by decide) rfl (by simp only [rl]; omega) ?_
    rw [e1]
    have e5 : p i = (S v).2.2.2 i := by rw [hp i (by omega), if_neg (by omega)]
    show aw g l mX11_product 71 _ (.int ((S w).2.2.2 i) :: .int (p i) :: _) _ Q
    rw [e5]
    refine sX11_product_71 ?_
    refine tX11_product_72 hS (by decide) (by decide) rfl (by simp only [rl]; omega) ?_
    refine nX11_product_73 rfl ?_
    refine sX11_product_76 ?_
    have hR2 := RX_pow (v := v) (i := i) (s := (S v).2.2.2 i + (S w).2.2.2 i) hR (by omega)
    simp only [vup_s, vup_vup] at hR2
    refine ih (i + 1) _ N3 (va_up p i ((S v).2.2.2 i + (S w).2.2.2 i)) (by omega) (fun j hj => ?_) (xo3_tr ho3 (xo3_up (by omega))) hR2
    by_cases e : j = i
    · subst e; rw [vup_s, if_pos (by omega)]
    · rw [vup_n e, hp j hj]
      by_cases e9 : j < i
      · rw [if_pos e9, if_pos (by omega)]
      · rw [if_neg e9, if_neg (by omega)]
  | zero =>
    intro i K3 N3 p hi hp ho3 hR
    obtain rfl : i = 8 := by omega
    have hp : ∀ j, j < 8 → p j = (S v).2.2.2 j + (S w).2.2.2 j := fun j hj => by rw [hp j hj, if_pos hj]
    have hp2 : pOk p ↔ pOk (fun k => (S v).2.2.2 k + (S w).2.2.2 k) := by
      constructor
      · intro q j hj; have := q j hj; rw [hp j hj] at this; exact this
      · intro q j hj; rw [hp j hj]; exact q j hj
    obtain ⟨y1, y2, y3, y4⟩ := hR.2 v hv
    obtain ⟨z1, z2, z3, z4⟩ := hR.2 w hw
    rw [vup_s] at y1 y2 y3 y4
    rw [vup_n hne] at z1 z2 z3 z4
    refine sX11_product_19 rfl ?_
    refine nX11_product_21 ?_
    refine nX11_product_23 (by omega) (by omega) (fun _ => ?_) (fun hc => absurd hc (by omega))
    refine sX11_product_79 rfl ?_
    refine sX11_product_80 rfl ?_
    refine tX11_product_81 hS (Nat.le_of_ble_eq_true rfl) ?_
    refine c_arePowers hS hv y4 (fun hpk => ?_) (fun hpk => ?_)
    · refine sX11_product_84 (fun _ => ?_) (fun hc => absurd hc (by decide))
      have hpk2 := hp2.mp hpk
      obtain ⟨a1, a2, a3, a4, a5, a6, a7⟩ := hx
      obtain ⟨b1, b2, b3, b4, b5, b6, b7⟩ := hy
      have hF : vMul B (S v) (S w) = vFin B (vRed ((S v).1 * (S w).1, (S v).2.1 * (S w).2.1, (S v).2.2.1 * (S w).2.2.1, fun k => (S v).2.2.2 k + (S w).2.2.2 k)) := by
        unfold vMul
        exact cIf_t hpk2
      have m1 := zprod a2 (show (S w).2.1 < 2 ^ 512 by assumption)
      have m2 := zprod a3 (show (S w).2.2.1 < 2 ^ 512 by assumption)
      have hz := z1024
      refine sX11_product_90 rfl ?_
      refine nX11_product_91 ?_
      refine nX11_product_94 ?_
      refine sX11_product_95 rfl ?_
      refine nX11_product_96 ?_
      refine sX11_product_97 rfl ?_
      refine sX11_product_98 (fun _ => ?_) (fun hc => absurd rfl hc)
      refine nX11_product_109 ?_
      refine sX11_product_110 rfl ?_
      refine nX11_product_111 ?_
      refine tX11_product_112 hS (Nat.le_of_ble_eq_true rfl) ?_
      refine c_multiply hS hR.1 (by omega) (by omega) (by omega) (by omega) (by omega) (by rw [y1, z1]; show (S v).2.1 * _ < _; omega) (fun K4 ho4 hN4 => ?_)
      rw [y1, z1] at hN4
      have hX4 := RX_scr hR ho4 hN4 (zk_up (by omega))
      refine sX11_product_115 rfl ?_
      refine nX11_product_116 ?_
      refine nX11_product_119 ?_
      refine sX11_product_120 rfl ?_
      refine nX11_product_121 ?_
      refine nX11_product_122 ?_
      refine nX11_product_123 ?_
      refine sX11_product_124 rfl ?_
      refine sX11_product_125 (fun _ => ?_) (fun hc => absurd rfl hc)
      refine nX11_product_134 ?_
      refine sX11_product_135 rfl ?_
      refine nX11_product_136 ?_
      refine nX11_product_137 ?_
      refine nX11_product_138 ?_
      refine tX11_product_139 hS (Nat.le_of_ble_eq_true rfl) ?_
      have f1 : va_up N3 340 ((vP (S v) p).2.1 * (S w).2.1) (2 * v + 1) = (S v).2.2.1 := by rw [zup_n (by omega)]; exact y2
      have f2 : va_up N3 340 ((vP (S v) p).2.1 * (S w).2.1) (2 * w + 1) = (S w).2.2.1 := by rw [zup_n (by omega)]; exact z2
      refine c_multiply hS hN4 (by omega) (by omega) (by omega) (by omega) (by omega) (by rw [f1, f2]; omega) (fun K5 ho5 hN5 => ?_)
      rw [f1, f2] at hN5
      have hX5 := RX_scr hX4 ho5 hN5 (zk_up (by omega))
      refine sX11_product_142 rfl ?_
      refine nX11_product_143 ?_
      refine sX11_product_144 rfl ?_
      refine nX11_product_145 ?_
      refine nX11_product_146 ?_
      refine tX11_product_149 hS (Nat.le_of_ble_eq_true rfl) ?_
      refine c_copy hS hN5 (by omega) (by omega) (by omega) (fun K6 ho6 hN6 => ?_)
      rw [zup_n (show (340 : Nat) ≠ 341 by omega), zup_s] at hN6
      have hX6 := RX_num hX5 ho6 hN6
      refine sX11_product_152 rfl ?_
      refine nX11_product_153 ?_
      refine sX11_product_154 rfl ?_
      refine nX11_product_155 ?_
      refine nX11_product_156 ?_
      refine nX11_product_157 ?_
      refine nX11_product_158 ?_
      refine tX11_product_161 hS (Nat.le_of_ble_eq_true rfl) ?_
      refine c_copy hS hN6 (by omega) (by omega) (by omega) (fun K7 ho7 hN7 => ?_)
      rw [zup_n (show (341 : Nat) ≠ 2 * v by omega), zup_s] at hN7
      have hX7 := RX_den hX6 ho7 hN7
      simp only [vup_s, vup_vup] at hX7
      have s1 := (hX7.2 v hv).2.2.1
      have s2 := (hX7.2 w hw).2.2.1
      rw [vup_s] at s1
      rw [vup_n hne] at s2
      refine sX11_product_164 rfl ?_
      refine tX11_product_165 hS ?_
      refine sX11_product_168 rfl ?_
      refine sX11_product_169 rfl ?_
      refine tX11_product_170 hS ?_
      refine sX11_product_173 rfl ?_
      refine tX11_product_174 hS (by decide) (by decide) rfl (by simp only [rl]; omega) ?_
      rw [show K7 2 v = (S v).1 from s1]
      refine sX11_product_175 rfl ?_
      refine tX11_product_176 hS ?_
      refine sX11_product_179 rfl ?_
      refine tX11_product_180 hS (by decide) (by decide) rfl (by simp only [rl]; omega) ?_
      rw [s2]
      refine sX11_product_181 ?_
      refine tX11_product_182 hS (by decide) (by decide) rfl (by simp only [rl]; omega) ?_
      refine sX11_product_183 rfl ?_
      refine sX11_product_184 rfl ?_
      refine tX11_product_185 hS (Nat.le_of_ble_eq_true rfl) ?_
      have hX8 := RX_sgn (v := v) (s := (S v).1 * (S w).1) hX7
      simp only [vup_s, vup_vup] at hX8
      have ho8 : xo3 K (xup2 K7 2 v ((S v).1 * (S w).1)) := xo3_tr ho3 (xo3_tr (xo3_1 (xo1_tr ho4 (xo1_tr ho5 (xo1_tr ho6 ho7)))) (xo3_up (by omega)))
      have hX8 : RX (xup2 K7 2 v ((S v).1 * (S w).1)) _ (va_up S v ((S v).1 * (S w).1, (S v).2.1 * (S w).2.1, (S v).2.2.1 * (S w).2.2.1, fun k => (S v).2.2.2 k + (S w).2.2.2 k)) := RX_v hX8 ⟨rfl, rfl, rfl, hp⟩
      refine c_reduce hS hX8 hv (by rw [vup_s]; exact Nat.mul_pos a1 b1) (by rw [vup_s]; show 2 * ((S v).2.2.1 * _) ≤ _; omega) (fun K9 N9 ho9 hX9 => ?_)
      simp only [vup_s, vup_vup] at hX9
      have ho10 := xo3_tr ho8 ho9
      refine sX11_product_188 rfl ?_
      refine sX11_product_189 rfl ?_
      refine tX11_product_190 hS (Nat.le_of_ble_eq_true rfl) ?_
      refine c_isLarge (B := B) hS hX9 hv (by rw [ho10 0 (by omega) (by omega) (by omega)]; exact hB) hB2 (fun hb => ?_) (fun hb => ?_)
      · refine sX11_product_193 (fun hc => absurd hc (by decide)) (fun _ => ?_)
        refine nX11_product_196 ?_
        refine sX11_product_198 ?_
        refine sX11_product_202 ?_
        rw [vup_s] at hb
        have hr : vMul B (S v) (S w) = (9, _) := hF.trans (by unfold vFin; exact cIf_t hb)
        have := k K9 N9 ho10 ⟨⟨_, hX9⟩, fun h0 => by rw [hr] at h0; exact absurd h0 (Nat.succ_ne_zero _)⟩
        rw [hr] at this
        exact this
      · refine sX11_product_193 (fun _ => ?_) (fun hc => absurd rfl hc)
        refine nX11_product_201 ?_
        refine sX11_product_202 ?_
        rw [vup_s] at hb
        have hr : vMul B (S v) (S w) = (0, _) := hF.trans (by unfold vFin; exact cIf_f hb)
        have := k K9 N9 ho10 ⟨⟨_, hX9⟩, fun _ => by rw [hr]; exact hX9⟩
        rw [hr] at this
        exact this
    · refine sX11_product_84 (fun hc => absurd rfl hc) (fun _ => ?_)
      refine nX11_product_87 ?_
      refine sX11_product_89 ?_
      have hr : vMul B (S v) (S w) = (8, S v) := by
        unfold vMul
        exact cIf_f (fun q => hpk (hp2.mpr q))
      have := k K3 N3 ho3 ⟨⟨_, hR⟩, fun h0 => by rw [hr] at h0; exact absurd h0 (Nat.succ_ne_zero _)⟩
      rw [hr] at this
      exact this
theorem c_productD {v w B : Nat} (hS : RS h b) (hX : RX K N S) (hv : v < 168) (hw : w < 168) (hne : w ≠ v) (hB : K 0 0 = nI B) (hB2 : B ≤ 512) (hx : vWf (S v)) (hy : vWf (S w)) (k : ∀ K' N', xo3 K K' → vPost (vDiv B (S v) (S w)) K' N' S v → Q (some (.int (nI (vDiv B (S v) (S w)).1))) (xB h b K')) : ac g l mX11_product [.ref b, .int (nI v), .int (nI w), .int 1] (xB h b K) Q := by
  refine ac_of (by decide) (Nat.le_of_ble_eq_true rfl) ?_
  obtain ⟨w1, w2, w3, w4⟩ := hX.2 w hw
  refine sX11_product_0 rfl ?_
  refine sX11_product_1 (fun hc => absurd hc (by decide)) (fun _ => ?_)
  refine sX11_product_4 rfl ?_
  refine tX11_product_5 hS ?_
  refine sX11_product_8 rfl ?_
  refine tX11_product_9 hS (by decide) (by decide) rfl (by simp only [rl]; omega) ?_
  rw [w3]
  refine sX11_product_10 (fun hsw => ?_) (fun hsw => ?_)
  rotate_left
  · refine nX11_product_13 ?_
    refine sX11_product_15 ?_
    have hr : vDiv B (S v) (S w) = (6, S v) := by unfold vDiv; exact cIf_t hsw
    have := k K N (xo3_rf K) ⟨⟨S v, by rw [vup_id]; exact hX⟩, fun h0 => by rw [hr] at h0; exact absurd h0 (Nat.succ_ne_zero _)⟩
    rw [hr] at this
    exact this
  refine nX11_product_16 ?_
  refine sX11_product_17 ?_
  suffices H : ∀ t i K3 N3 p, i + t = 8 → (∀ j, j < 8 → p j = if j < i then (S v).2.2.2 j + -(S w).2.2.2 j else (S v).2.2.2 j) → xo3 K K3 → RX K3 N3 (va_up S v (vP (S v) p)) → aw g l mX11_product 19 [(0, .ref b), (1, .int (nI v)), (2, .int (nI w)), (3, .int 1), (4, .int (nI i))] [] (xB h b K3) Q from H 8 0 K N (S v).2.2.2 rfl (fun j hj => by rw [if_neg (by omega)]) (xo3_rf K) (by
      show RX K N (va_up S v (S v))
      rw [vup_id]; exact hX)
  intro t
  induction t with
  | succ t ih =>
    intro i K3 N3 p hi hp ho3 hR
    refine sX11_product_19 rfl ?_
    refine nX11_product_21 ?_
    refine nX11_product_23 (by omega) (by omega) (fun hc => absurd hc (by omega)) (fun _ => ?_)
    refine sX11_product_26 rfl ?_
    refine tX11_product_27 hS ?_
    refine nX11_product_30 ?_
    refine sX11_product_32 rfl ?_
    refine nX11_product_33 ?_
    refine sX11_product_34 rfl ?_
    refine nX11_product_36 ?_
    refine sX11_product_37 rfl rfl ?_
    refine tX11_product_38 hS (by decide) (by decide) rfl (by simp only [rl]; omega) ?_
    have e0 := (hR.2 v hv).2.2.2 i (by omega)
    have e1 := (hR.2 w hw).2.2.2 i (by omega)
    rw [vup_s] at e0
    rw [vup_n hne] at e1
    rw [e0]
    refine sX11_product_39 rfl ?_
    refine sX11_product_40 (fun hc => absurd hc (by decide)) (fun _ => ?_)
    refine sX11_product_43 rfl ?_
    refine tX11_product_44 hS ?_
    refine nX11_product_47 ?_
    refine sX11_product_49 rfl ?_
    refine nX11_product_50 ?_
    refine sX11_product_51 rfl ?_
    refine nX11_product_53 ?_
    refine tX11_product_54 hS (by decide) (by decide) rfl (by simp only [rl]; omega) ?_
    rw [e1]
    refine sX11_product_55 ?_
    refine sX11_product_56 ?_
    have e5 : p i = (S v).2.2.2 i := by rw [hp i (by omega), if_neg (by omega)]
    show aw g l mX11_product 71 _ (.int (-(S w).2.2.2 i) :: .int (p i) :: _) _ Q
    rw [e5]
    refine sX11_product_71 ?_
    refine tX11_product_72 hS (by decide) (by decide) rfl (by simp only [rl]; omega) ?_
    refine nX11_product_73 rfl ?_
    refine sX11_product_76 ?_
    have hR2 := RX_pow (v := v) (i := i) (s := (S v).2.2.2 i + -(S w).2.2.2 i) hR (by omega)
    simp only [vup_s, vup_vup] at hR2
    refine ih (i + 1) _ N3 (va_up p i ((S v).2.2.2 i + -(S w).2.2.2 i)) (by omega) (fun j hj => ?_) (xo3_tr ho3 (xo3_up (by omega))) hR2
    by_cases e : j = i
    · subst e; rw [vup_s, if_pos (by omega)]
    · rw [vup_n e, hp j hj]
      by_cases e9 : j < i
      · rw [if_pos e9, if_pos (by omega)]
      · rw [if_neg e9, if_neg (by omega)]
  | zero =>
    intro i K3 N3 p hi hp ho3 hR
    obtain rfl : i = 8 := by omega
    have hp : ∀ j, j < 8 → p j = (S v).2.2.2 j + -(S w).2.2.2 j := fun j hj => by rw [hp j hj, if_pos hj]
    have hp2 : pOk p ↔ pOk (fun k => (S v).2.2.2 k + -(S w).2.2.2 k) := by
      constructor
      · intro q j hj; have := q j hj; rw [hp j hj] at this; exact this
      · intro q j hj; rw [hp j hj]; exact q j hj
    obtain ⟨y1, y2, y3, y4⟩ := hR.2 v hv
    obtain ⟨z1, z2, z3, z4⟩ := hR.2 w hw
    rw [vup_s] at y1 y2 y3 y4
    rw [vup_n hne] at z1 z2 z3 z4
    refine sX11_product_19 rfl ?_
    refine nX11_product_21 ?_
    refine nX11_product_23 (by omega) (by omega) (fun _ => ?_) (fun hc => absurd hc (by omega))
    refine sX11_product_79 rfl ?_
    refine sX11_product_80 rfl ?_
    refine tX11_product_81 hS (Nat.le_of_ble_eq_true rfl) ?_
    refine c_arePowers hS hv y4 (fun hpk => ?_) (fun hpk => ?_)
    · refine sX11_product_84 (fun _ => ?_) (fun hc => absurd hc (by decide))
      have hpk2 := hp2.mp hpk
      obtain ⟨a1, a2, a3, a4, a5, a6, a7⟩ := hx
      obtain ⟨b1, b2, b3, b4, b5, b6, b7⟩ := hy
      have hF : vDiv B (S v) (S w) = vFin B (vRed ((S v).1 * (S w).1, (S v).2.1 * (S w).2.2.1, (S v).2.2.1 * (S w).2.1, fun k => (S v).2.2.2 k + -(S w).2.2.2 k)) := by
        unfold vDiv
        rw [cIf_f hsw]; exact cIf_t hpk2
      have m1 := zprod a2 (show (S w).2.2.1 < 2 ^ 512 by assumption)
      have m2 := zprod a3 (show (S w).2.1 < 2 ^ 512 by assumption)
      have hz := z1024
      refine sX11_product_90 rfl ?_
      refine nX11_product_91 ?_
      refine nX11_product_94 ?_
      refine sX11_product_95 rfl ?_
      refine nX11_product_96 ?_
      refine sX11_product_97 rfl ?_
      refine sX11_product_98 (fun hc => absurd hc (by decide)) (fun _ => ?_)
      refine nX11_product_101 ?_
      refine sX11_product_102 rfl ?_
      refine nX11_product_103 ?_
      refine nX11_product_104 ?_
      refine nX11_product_105 ?_
      refine sX11_product_106 ?_
      refine tX11_product_112 hS (Nat.le_of_ble_eq_true rfl) ?_
      refine c_multiply hS hR.1 (by omega) (by omega) (by omega) (by omega) (by omega) (by rw [y1, z2]; show (S v).2.1 * _ < _; omega) (fun K4 ho4 hN4 => ?_)
      rw [y1, z2] at hN4
      have hX4 := RX_scr hR ho4 hN4 (zk_up (by omega))
      refine sX11_product_115 rfl ?_
      refine nX11_product_116 ?_
      refine nX11_product_119 ?_
      refine sX11_product_120 rfl ?_
      refine nX11_product_121 ?_
      refine nX11_product_122 ?_
      refine nX11_product_123 ?_
      refine sX11_product_124 rfl ?_
      refine sX11_product_125 (fun hc => absurd hc (by decide)) (fun _ => ?_)
      refine nX11_product_128 ?_
      refine sX11_product_129 rfl ?_
      refine nX11_product_130 ?_
      refine sX11_product_131 ?_
      refine tX11_product_139 hS (Nat.le_of_ble_eq_true rfl) ?_
      have f1 : va_up N3 340 ((vP (S v) p).2.1 * (S w).2.2.1) (2 * v + 1) = (S v).2.2.1 := by rw [zup_n (by omega)]; exact y2
      have f2 : va_up N3 340 ((vP (S v) p).2.1 * (S w).2.2.1) (2 * w) = (S w).2.1 := by rw [zup_n (by omega)]; exact z1
      refine c_multiply hS hN4 (by omega) (by omega) (by omega) (by omega) (by omega) (by rw [f1, f2]; omega) (fun K5 ho5 hN5 => ?_)
      rw [f1, f2] at hN5
      have hX5 := RX_scr hX4 ho5 hN5 (zk_up (by omega))
      refine sX11_product_142 rfl ?_
      refine nX11_product_143 ?_
      refine sX11_product_144 rfl ?_
      refine nX11_product_145 ?_
      refine nX11_product_146 ?_
      refine tX11_product_149 hS (Nat.le_of_ble_eq_true rfl) ?_
      refine c_copy hS hN5 (by omega) (by omega) (by omega) (fun K6 ho6 hN6 => ?_)
      rw [zup_n (show (340 : Nat) ≠ 341 by omega), zup_s] at hN6
      have hX6 := RX_num hX5 ho6 hN6
      refine sX11_product_152 rfl ?_
      refine nX11_product_153 ?_
      refine sX11_product_154 rfl ?_
      refine nX11_product_155 ?_
      refine nX11_product_156 ?_
      refine nX11_product_157 ?_
      refine nX11_product_158 ?_
      refine tX11_product_161 hS (Nat.le_of_ble_eq_true rfl) ?_
      refine c_copy hS hN6 (by omega) (by omega) (by omega) (fun K7 ho7 hN7 => ?_)
      rw [zup_n (show (341 : Nat) ≠ 2 * v by omega), zup_s] at hN7
      have hX7 := RX_den hX6 ho7 hN7
      simp only [vup_s, vup_vup] at hX7
      have s1 := (hX7.2 v hv).2.2.1
      have s2 := (hX7.2 w hw).2.2.1
      rw [vup_s] at s1
      rw [vup_n hne] at s2
      refine sX11_product_164 rfl ?_
      refine tX11_product_165 hS ?_
      refine sX11_product_168 rfl ?_
      refine sX11_product_169 rfl ?_
      refine tX11_product_170 hS ?_
      refine sX11_product_173 rfl ?_
      refine tX11_product_174 hS (by decide) (by decide) rfl (by simp only [rl]; omega) ?_
      rw [show K7 2 v = (S v).1 from s1]
      refine sX11_product_175 rfl ?_
      refine tX11_product_176 hS ?_
      refine sX11_product_179 rfl ?_
      refine tX11_product_180 hS (by decide) (by decide) rfl (by simp only [rl]; omega) ?_
      rw [s2]
      refine sX11_product_181 ?_
      refine tX11_product_182 hS (by decide) (by decide) rfl (by simp only [rl]; omega) ?_
      refine sX11_product_183 rfl ?_
      refine sX11_product_184 rfl ?_
      refine tX11_product_185 hS (Nat.le_of_ble_eq_true rfl) ?_
      have hX8 := RX_sgn (v := v) (s := (S v).1 * (S w).1) hX7
      simp only [vup_s, vup_vup] at hX8
      have ho8 : xo3 K (xup2 K7 2 v ((S v).1 * (S w).1)) := xo3_tr ho3 (xo3_tr (xo3_1 (xo1_tr ho4 (xo1_tr ho5 (xo1_tr ho6 ho7)))) (xo3_up (by omega)))
      have hX8 : RX (xup2 K7 2 v ((S v).1 * (S w).1)) _ (va_up S v ((S v).1 * (S w).1, (S v).2.1 * (S w).2.2.1, (S v).2.2.1 * (S w).2.1, fun k => (S v).2.2.2 k + -(S w).2.2.2 k)) := RX_v hX8 ⟨rfl, rfl, rfl, hp⟩
      refine c_reduce hS hX8 hv (by rw [vup_s]; exact Nat.mul_pos a1 (Nat.pos_of_ne_zero (fun q => hsw (b4.mpr q)))) (by rw [vup_s]; show 2 * ((S v).2.2.1 * _) ≤ _; omega) (fun K9 N9 ho9 hX9 => ?_)
      simp only [vup_s, vup_vup] at hX9
      have ho10 := xo3_tr ho8 ho9
      refine sX11_product_188 rfl ?_
      refine sX11_product_189 rfl ?_
      refine tX11_product_190 hS (Nat.le_of_ble_eq_true rfl) ?_
      refine c_isLarge (B := B) hS hX9 hv (by rw [ho10 0 (by omega) (by omega) (by omega)]; exact hB) hB2 (fun hb => ?_) (fun hb => ?_)
      · refine sX11_product_193 (fun hc => absurd hc (by decide)) (fun _ => ?_)
        refine nX11_product_196 ?_
        refine sX11_product_198 ?_
        refine sX11_product_202 ?_
        rw [vup_s] at hb
        have hr : vDiv B (S v) (S w) = (9, _) := hF.trans (by unfold vFin; exact cIf_t hb)
        have := k K9 N9 ho10 ⟨⟨_, hX9⟩, fun h0 => by rw [hr] at h0; exact absurd h0 (Nat.succ_ne_zero _)⟩
        rw [hr] at this
        exact this
      · refine sX11_product_193 (fun _ => ?_) (fun hc => absurd rfl hc)
        refine nX11_product_201 ?_
        refine sX11_product_202 ?_
        rw [vup_s] at hb
        have hr : vDiv B (S v) (S w) = (0, _) := hF.trans (by unfold vFin; exact cIf_f hb)
        have := k K9 N9 ho10 ⟨⟨_, hX9⟩, fun _ => by rw [hr]; exact hX9⟩
        rw [hr] at this
        exact this
    · refine sX11_product_84 (fun hc => absurd rfl hc) (fun _ => ?_)
      refine nX11_product_87 ?_
      refine sX11_product_89 ?_
      have hr : vDiv B (S v) (S w) = (8, S v) := by
        unfold vDiv
        rw [cIf_f hsw]; exact cIf_f (fun q => hpk (hp2.mpr q))
      have := k K3 N3 ho3 ⟨⟨_, hR⟩, fun h0 => by rw [hr] at h0; exact absurd h0 (Nat.succ_ne_zero _)⟩
      rw [hr] at this
      exact this
end RefOps
