noncomputable def vPow (B : Nat) (x : Vl) (m : Nat) (ng : Bool) (n : Int32) : Nat × Vl := cIf (x.1 = 0 ∧ ng = true) (6, x) (cIf (pOk (fun k => x.2.2.2 k * n)) (vFin B (if m = 0 then 1 else if m % 2 = 0 then x.1 * x.1 else x.1, (if ng then x.2.2.1 else x.2.1) ^ m, (if ng then x.2.1 else x.2.2.1) ^ m, fun k => x.2.2.2 k * n)) (8, x))
section RefOps2
variable {g : xG} {l : Launch} {h : xH} {b : Nat} {K : Nat → Nat → Int32} {N : Nat → Nat} {S : Nat → Vl} {Q : Option Value → xH → Prop}
theorem c_sum {v w B : Nat} {c s : Int32} (hS : RS h b) (hX : RX K N S) (hv : v < 168) (hw : w < 168) (hne : w ≠ v) (hB : K 0 0 = nI B) (hB2 : B ≤ 512) (hx : vWf (S v)) (hy : vWf (S w)) (hcs : c = 0 ∧ s = (S w).1 ∨ c = 1 ∧ s = -(S w).1) (k : ∀ K' N', xo3 K K' → vPost (vAdd B (S v) (S w) s) K' N' S v → Q (some (.int (nI (vAdd B (S v) (S w) s).1))) (xB h b K')) : ac g l mX11_sum [.ref b, .int (nI v), .int (nI w), .int c] (xB h b K) Q := by
  refine ac_of (by decide) (Nat.le_of_ble_eq_true rfl) ?_
  obtain ⟨y1, y2, y3, y4⟩ := hX.2 v hv
  obtain ⟨z1, z2, z3, z4⟩ := hX.2 w hw
  refine sX11_sum_0 rfl ?_
  refine sX11_sum_1 rfl ?_
  refine sX11_sum_2 rfl ?_
  refine tX11_sum_3 hS (Nat.le_of_ble_eq_true rfl) ?_
  refine c_areAlike hS hv hw y4 z4 (fun hp => ?_) (fun hp => ?_)
  rotate_left
  · refine sX11_sum_6 (fun hc => absurd rfl hc) (fun _ => ?_)
    refine nX11_sum_9 ?_
    refine sX11_sum_11 ?_
    have hr : vAdd B (S v) (S w) s = (7, S v) := by unfold vAdd; exact cIf_f hp
    have := k K N (xo3_rf K) ⟨⟨S v, by rw [vup_id]; exact hX⟩, fun h0 => by rw [hr] at h0; exact absurd h0 (Nat.succ_ne_zero _)⟩
    rw [hr] at this
    exact this
  refine sX11_sum_6 (fun _ => ?_) (fun hc => absurd hc (by decide))
  have hF : vAdd B (S v) (S w) s = vFin B (vRed (vSum (S v) (S w) s)) := by unfold vAdd; exact cIf_t hp
  rw [hF] at k
  obtain ⟨a1, a2, a3, a4, a5, a6, a7⟩ := hx
  obtain ⟨b1, b2, b3, b4, b5, b6, b7⟩ := hy
  have m1 := zprod a2 b3
  have m2 := zprod b2 a3
  have m3 := zprod a3 b3
  have m4 := Nat.mul_pos a1 b1
  have hz := z1024
  obtain ⟨U, hU⟩ : ∃ U, U = (S v).2.1 * (S w).2.2.1 := ⟨_, rfl⟩
  obtain ⟨V, hV⟩ : ∃ V, V = (S w).2.1 * (S v).2.2.1 := ⟨_, rfl⟩
  obtain ⟨D, hD⟩ : ∃ D, D = (S v).2.2.1 * (S w).2.2.1 := ⟨_, rfl⟩
  rw [← hU] at m1
  rw [← hV] at m2
  rw [← hD] at m3 m4
  have l231 : ∀ K1 N1 lv1, xo3 K K1 → RX K1 N1 (va_up S v (vSum (S v) (S w) s)) → (vSum (S v) (S w) s).2.2.1 = D → (∀ z ∈ ([(0, .ref b), (1, .int (nI v))] : List (Nat × Value)), z ∈ lv1) → aw g l mX11_sum 231 lv1 [] (xB h b K1) Q := by
    intro K1 N1 lv1 ho hR hd hl
    refine aw_lv hl ?_
    refine sX11_sum_231 rfl ?_
    refine sX11_sum_232 rfl ?_
    refine tX11_sum_233 hS (Nat.le_of_ble_eq_true rfl) ?_
    refine c_reduce hS hR hv (by rw [vup_s, hd]; exact m4) (by rw [vup_s, hd]; omega) (fun K9 N9 ho9 hX9 => ?_)
    simp only [vup_s, vup_vup] at hX9
    have ho10 := xo3_tr ho ho9
    refine sX11_sum_236 rfl ?_
    refine sX11_sum_237 rfl ?_
    refine tX11_sum_238 hS (Nat.le_of_ble_eq_true rfl) ?_
    refine c_isLarge (B := B) hS hX9 hv (by rw [ho10 0 (by omega) (by omega) (by omega)]; exact hB) hB2 (fun hb => ?_) (fun hb => ?_)
    · refine sX11_sum_241 (fun hc => absurd hc (by decide)) (fun _ => ?_)
      refine nX11_sum_244 ?_
      refine sX11_sum_246 ?_
      refine sX11_sum_250 ?_
      rw [vup_s] at hb
      have hr : vFin B (vRed (vSum (S v) (S w) s)) = (9, vRed (vSum (S v) (S w) s)) := by unfold vFin; exact cIf_t hb
      have := k K9 N9 ho10 ⟨⟨_, hX9⟩, fun h0 => by rw [hr] at h0; exact absurd h0 (Nat.succ_ne_zero _)⟩
      rw [hr] at this
      exact this
    · refine sX11_sum_241 (fun _ => ?_) (fun hc => absurd rfl hc)
      refine nX11_sum_249 ?_
      refine sX11_sum_250 ?_
      rw [vup_s] at hb
      have hr : vFin B (vRed (vSum (S v) (S w) s)) = (0, vRed (vSum (S v) (S w) s)) := by unfold vFin; exact cIf_f hb
      have := k K9 N9 ho10 ⟨⟨_, hX9⟩, fun _ => by rw [hr]; exact hX9⟩
      rw [hr] at this
      exact this
  have l34 : aw g l mX11_sum 34 [(0, .ref b), (1, .int (nI v)), (2, .int (nI w)), (4, .int s)] [] (xB h b K) Q := by
    refine sX11_sum_34 rfl ?_
    refine nX11_sum_35 ?_
    refine nX11_sum_38 ?_
    refine sX11_sum_39 rfl ?_
    refine nX11_sum_40 ?_
    refine nX11_sum_41 ?_
    refine sX11_sum_42 rfl ?_
    refine nX11_sum_43 ?_
    refine nX11_sum_44 ?_
    refine nX11_sum_45 ?_
    refine tX11_sum_46 hS (Nat.le_of_ble_eq_true rfl) ?_
    refine c_multiply hS hX.1 (by omega) (by omega) (by omega) (by omega) (by omega) (by rw [y1, z2, ← hU]; omega) (fun K1 ho1 hN1 => ?_)
    rw [y1, z2, ← hU] at hN1
    have hX1 := RX_scr hX ho1 hN1 (zk_up (by omega))
    refine sX11_sum_49 rfl ?_
    refine nX11_sum_50 ?_
    refine nX11_sum_53 ?_
    refine sX11_sum_54 rfl ?_
    refine nX11_sum_55 ?_
    refine nX11_sum_56 ?_
    refine sX11_sum_57 rfl ?_
    refine nX11_sum_58 ?_
    refine nX11_sum_59 ?_
    refine nX11_sum_60 ?_
    refine tX11_sum_61 hS (Nat.le_of_ble_eq_true rfl) ?_
    have f1 : va_up N 340 U (2 * w) * va_up N 340 U (2 * v + 1) = V := by rw [zup_n (by omega), zup_n (by omega), z1, y2, hV]
    refine c_multiply hS hN1 (by omega) (by omega) (by omega) (by omega) (by omega) (by rw [f1]; omega) (fun K2 ho2 hN2 => ?_)
    rw [f1] at hN2
    have hX2 := RX_scr hX1 ho2 hN2 (zk_up (by omega))
    refine sX11_sum_64 rfl ?_
    refine nX11_sum_65 ?_
    refine nX11_sum_68 ?_
    refine sX11_sum_69 rfl ?_
    refine nX11_sum_70 ?_
    refine nX11_sum_71 ?_
    refine nX11_sum_72 ?_
    refine nX11_sum_73 ?_
    refine sX11_sum_74 rfl ?_
    refine nX11_sum_75 ?_
    refine nX11_sum_76 ?_
    refine nX11_sum_77 ?_
    refine tX11_sum_78 hS (Nat.le_of_ble_eq_true rfl) ?_
    have f2 : va_up (va_up N 340 U) 341 V (2 * v + 1) * va_up (va_up N 340 U) 341 V (2 * w + 1) = D := by rw [zup_n (by omega), zup_n (by omega), zup_n (by omega), zup_n (by omega), y2, z2, hD]
    refine c_multiply hS hN2 (by omega) (by omega) (by omega) (by omega) (by omega) (by rw [f2]; omega) (fun K3 ho3 hN3 => ?_)
    rw [f2] at hN3
    have hX3 := RX_scr hX2 ho3 hN3 (zk_up (by omega))
    refine sX11_sum_81 rfl ?_
    refine nX11_sum_82 ?_
    refine sX11_sum_83 rfl ?_
    refine nX11_sum_84 ?_
    refine nX11_sum_85 ?_
    refine nX11_sum_86 ?_
    refine nX11_sum_87 ?_
    refine tX11_sum_90 hS (Nat.le_of_ble_eq_true rfl) ?_
    refine c_copy hS hN3 (by omega) (by omega) (by omega) (fun K4 ho4 hN4 => ?_)
    rw [zup_s] at hN4
    have hX4 := RX_den hX3 ho4 hN4
    have hX4 : RX K4 _ (va_up S v (vD (S v) D)) := hX4
    have ho14 : xo1 K K4 := xo1_tr ho1 (xo1_tr ho2 (xo1_tr ho3 ho4))
    have e340 : va_up (va_up (va_up (va_up N 340 U) 341 V) 338 D) (2 * v + 1) D 340 = U := by rw [zup_n (by omega), zup_n (by omega), zup_n (by omega), zup_s]
    have e341 : va_up (va_up (va_up (va_up N 340 U) 341 V) 338 D) (2 * v + 1) D 341 = V := by rw [zup_n (by omega), zup_n (by omega), zup_s]
    have sv : K4 2 v = (S v).1 := by rw [ho14 2 (by omega)]; exact y3
    have plus : (S v).1 = 0 ∨ s = 0 ∨ (S v).1 = s → aw g l mX11_sum 118 [(0, .ref b), (1, .int (nI v)), (2, .int (nI w)), (4, .int s)] [] (xB h b K4) Q := by
      intro hc
      have hvs : vSum (S v) (S w) s = (cIf ((S v).1 = 0) s (S v).1, U + V, D, (S v).2.2.2) := by
        unfold vSum
        rw [cIf_t hc, hU, hV, hD]
      refine sX11_sum_118 rfl ?_
      refine nX11_sum_119 ?_
      refine nX11_sum_122 ?_
      refine tX11_sum_125 hS (Nat.le_of_ble_eq_true rfl) ?_
      refine c_add hS hN4 (by omega) (by omega) (by omega) (by rw [e340, e341]; omega) (fun K5 ho5 hN5 => ?_)
      rw [e340, e341] at hN5
      have hX5 := RX_scr hX4 ho5 hN5 (zk_up (by omega))
      refine sX11_sum_128 rfl ?_
      refine nX11_sum_129 ?_
      refine sX11_sum_130 rfl ?_
      refine nX11_sum_131 ?_
      refine nX11_sum_132 ?_
      refine tX11_sum_135 hS (Nat.le_of_ble_eq_true rfl) ?_
      refine c_copy hS hN5 (by omega) (by omega) (by omega) (fun K6 ho6 hN6 => ?_)
      rw [zup_s] at hN6
      have hX6 := RX_num hX5 ho6 hN6
      simp only [vup_s, vup_vup] at hX6
      have ho16 : xo1 K K6 := xo1_tr ho14 (xo1_tr ho5 ho6)
      have sv6 : K6 2 v = (S v).1 := by rw [ho16 2 (by omega)]; exact y3
      refine sX11_sum_138 rfl ?_
      refine tX11_sum_139 hS ?_
      refine sX11_sum_142 rfl ?_
      refine sX11_sum_143 rfl ?_
      refine tX11_sum_144 hS ?_
      refine sX11_sum_147 rfl ?_
      refine tX11_sum_148 hS (by decide) (by decide) rfl (by simp only [rl]; omega) ?_
      rw [sv6]
      have l163 : ∀ lv2 : List (Nat × Value), (∀ z ∈ ([(0, .ref b), (1, .int (nI v))] : List (Nat × Value)), z ∈ lv2) → aw g l mX11_sum 163 lv2 [.int (cIf ((S v).1 = 0) s (S v).1), .int (nI v), .ref (b + 2)] (xB h b K6) Q := by
        intro lv2 hl2
        refine aw_lv hl2 ?_
        refine tX11_sum_163 hS (by decide) (by decide) rfl (by simp only [rl]; omega) ?_
        refine sX11_sum_164 ?_
        have hX7 := RX_sgn (v := v) (s := cIf ((S v).1 = 0) s (S v).1) hX6
        simp only [vup_s, vup_vup] at hX7
        exact l231 _ _ _ (xo3_tr (xo3_1 ho16) (xo3_up (by omega))) (by rw [hvs]; exact hX7) (by rw [hvs]) (fun z hz => hz)
      by_cases h0 : (S v).1 = 0
      · refine sX11_sum_149 (fun hc => absurd h0 hc) (fun _ => ?_)
        refine sX11_sum_152 rfl ?_
        refine sX11_sum_154 ?_
        have := l163 [(0, .ref b), (1, .int (nI v)), (2, .int (nI w)), (4, .int s)] (fun z hz => by
          simp only [List.mem_cons, List.not_mem_nil, or_false] at hz
          rcases hz with rfl | rfl <;> exact xlk_mem rfl)
        rw [cIf_t h0] at this
        exact this
      · refine sX11_sum_149 (fun _ => ?_) (fun hc => absurd hc h0)
        refine sX11_sum_157 rfl ?_
        refine tX11_sum_158 hS ?_
        refine sX11_sum_161 rfl ?_
        refine tX11_sum_162 hS (by decide) (by decide) rfl (by simp only [rl]; omega) ?_
        rw [sv6]
        have := l163 [(0, .ref b), (1, .int (nI v)), (2, .int (nI w)), (4, .int s)] (fun z hz => by
          simp only [List.mem_cons, List.not_mem_nil, or_false] at hz
          rcases hz with rfl | rfl <;> exact xlk_mem rfl)
        rw [cIf_f h0] at this
        exact this
    refine sX11_sum_93 rfl ?_
    refine tX11_sum_94 hS ?_
    refine sX11_sum_97 rfl ?_
    refine tX11_sum_98 hS (by decide) (by decide) rfl (by simp only [rl]; omega) ?_
    rw [sv]
    refine sX11_sum_99 (fun hc => plus (Or.inl hc)) (fun hc1 => ?_)
    refine sX11_sum_102 rfl ?_
    refine sX11_sum_104 (fun hc => plus (Or.inr (Or.inl hc))) (fun hc2 => ?_)
    refine sX11_sum_107 rfl ?_
    refine tX11_sum_108 hS ?_
    refine sX11_sum_111 rfl ?_
    refine tX11_sum_112 hS (by decide) (by decide) rfl (by simp only [rl]; omega) ?_
    rw [sv]
    refine sX11_sum_113 rfl ?_
    refine sX11_sum_115 (fun hc3 => ?_) (fun hc => plus (Or.inr (Or.inr hc)))
    have hnc : ¬ ((S v).1 = 0 ∨ s = 0 ∨ (S v).1 = s) := by
      rintro (q | q | q)
      · exact hc1 q
      · exact hc2 q
      · exact hc3 q
    refine sX11_sum_167 rfl ?_
    refine nX11_sum_168 ?_
    refine nX11_sum_171 ?_
    refine tX11_sum_174 hS (Nat.le_of_ble_eq_true rfl) ?_
    have ge : V ≤ U → aw g l mX11_sum 180 [(0, .ref b), (1, .int (nI v)), (2, .int (nI w)), (4, .int s)] [] (xB h b K4) Q := by
      intro hle
      have hvs : vSum (S v) (S w) s = ((S v).1, U - V, D, (S v).2.2.2) := by
        unfold vSum
        rw [cIf_f hnc, cIf_t (by rw [← hU, ← hV]; exact hle), hU, hV, hD]
      refine sX11_sum_180 rfl ?_
      refine nX11_sum_181 ?_
      refine nX11_sum_184 ?_
      refine tX11_sum_187 hS (Nat.le_of_ble_eq_true rfl) ?_
      refine c_subtract hS hN4 (by omega) (by omega) (by omega) (by rw [e340, e341]; exact hle) (fun K5 ho5 hN5 => ?_)
      rw [e340, e341] at hN5
      have hX5 := RX_scr hX4 ho5 hN5 (zk_up (by omega))
      refine sX11_sum_190 rfl ?_
      refine nX11_sum_191 ?_
      refine sX11_sum_192 rfl ?_
      refine nX11_sum_193 ?_
      refine nX11_sum_194 ?_
      refine tX11_sum_197 hS (Nat.le_of_ble_eq_true rfl) ?_
      refine c_copy hS hN5 (by omega) (by omega) (by omega) (fun K6 ho6 hN6 => ?_)
      rw [zup_s] at hN6
      have hX6 := RX_num hX5 ho6 hN6
      simp only [vup_s, vup_vup] at hX6
      refine sX11_sum_200 ?_
      exact l231 _ _ _ (xo3_1 (xo1_tr ho14 (xo1_tr ho5 ho6))) (by rw [hvs]; exact hX6) (by rw [hvs]) (fun z hz => by
          simp only [List.mem_cons, List.not_mem_nil, or_false] at hz
          rcases hz with rfl | rfl <;> exact xlk_mem rfl)
    refine c_compare hS hN4 (by omega) (by omega) (fun hlt => ?_) (fun heq => ?_) (fun hgt => ?_)
    · refine sX11_sum_177 (fun _ => ?_) (fun hc => absurd (by decide) hc)
      rw [e340, e341] at hlt
      have hvs : vSum (S v) (S w) s = (s, V - U, D, (S v).2.2.2) := by
        unfold vSum
        rw [cIf_f hnc, cIf_f (by rw [← hU, ← hV]; omega), hU, hV, hD]
      refine sX11_sum_203 rfl ?_
      refine nX11_sum_204 ?_
      refine nX11_sum_207 ?_
      refine tX11_sum_210 hS (Nat.le_of_ble_eq_true rfl) ?_
      refine c_subtract hS hN4 (by omega) (by omega) (by omega) (by rw [e340, e341]; omega) (fun K5 ho5 hN5 => ?_)
      rw [e340, e341] at hN5
      have hX5 := RX_scr hX4 ho5 hN5 (zk_up (by omega))
      refine sX11_sum_213 rfl ?_
      refine nX11_sum_214 ?_
      refine sX11_sum_215 rfl ?_
      refine nX11_sum_216 ?_
      refine nX11_sum_217 ?_
      refine tX11_sum_220 hS (Nat.le_of_ble_eq_true rfl) ?_
      refine c_copy hS hN5 (by omega) (by omega) (by omega) (fun K6 ho6 hN6 => ?_)
      rw [zup_s] at hN6
      have hX6 := RX_num hX5 ho6 hN6
      simp only [vup_s, vup_vup] at hX6
      refine sX11_sum_223 rfl ?_
      refine tX11_sum_224 hS ?_
      refine sX11_sum_227 rfl ?_
      refine sX11_sum_228 rfl ?_
      refine tX11_sum_230 hS (by decide) (by decide) rfl (by simp only [rl]; omega) ?_
      have hX7 := RX_sgn (v := v) (s := s) hX6
      simp only [vup_s, vup_vup] at hX7
      exact l231 _ _ _ (xo3_tr (xo3_1 (xo1_tr ho14 (xo1_tr ho5 ho6))) (xo3_up (by omega))) (by rw [hvs]; exact hX7) (by rw [hvs]) (fun z hz => by
          simp only [List.mem_cons, List.not_mem_nil, or_false] at hz
          rcases hz with rfl | rfl <;> exact xlk_mem rfl)
    · refine sX11_sum_177 (fun hc => absurd hc (by decide)) (fun _ => ?_)
      rw [e340, e341] at heq
      exact ge (by omega)
    · refine sX11_sum_177 (fun hc => absurd hc (by decide)) (fun _ => ?_)
      rw [e340, e341] at hgt
      exact ge (by omega)
  refine sX11_sum_12 rfl ?_
  rcases hcs with ⟨hc, hs⟩ | ⟨hc, hs⟩
  · subst hc; subst hs
    refine sX11_sum_13 (fun _ => ?_) (fun hc => absurd rfl hc)
    refine sX11_sum_26 rfl ?_
    refine tX11_sum_27 hS ?_
    refine sX11_sum_30 rfl ?_
    refine tX11_sum_31 hS (by decide) (by decide) rfl (by simp only [rl]; omega) ?_
    rw [z3]
    refine sX11_sum_32 ?_
    refine aw_lv (fun z hz => ?_) l34
    simp only [List.mem_cons, List.not_mem_nil, or_false] at hz
    rcases hz with rfl | rfl | rfl | rfl <;> exact xlk_mem rfl
  · subst hc; subst hs
    refine sX11_sum_13 (fun hc => absurd hc (by decide)) (fun _ => ?_)
    refine sX11_sum_16 rfl ?_
    refine tX11_sum_17 hS ?_
    refine sX11_sum_20 rfl ?_
    refine tX11_sum_21 hS (by decide) (by decide) rfl (by simp only [rl]; omega) ?_
    rw [z3]
    refine sX11_sum_22 ?_
    refine sX11_sum_23 ?_
    refine sX11_sum_32 ?_
    refine aw_lv (fun z hz => ?_) l34
    simp only [List.mem_cons, List.not_mem_nil, or_false] at hz
    rcases hz with rfl | rfl | rfl | rfl <;> exact xlk_mem rfl
end RefOps2
