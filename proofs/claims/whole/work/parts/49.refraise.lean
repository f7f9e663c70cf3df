section RefRaise
variable {g : xG} {l : Launch} {h : xH} {b : Nat} {K : Nat → Nat → Int32} {N : Nat → Nat} {S : Nat → Vl} {Q : Option Value → xH → Prop}
theorem zpow_big {a i m B : Nat} (h : 2 ^ B ≤ a ^ i) (hi : i ≤ m) (hB : 0 < B) : 2 ^ B ≤ a ^ m := by
  have h2 : 2 ≤ 2 ^ B := by
    have := Nat.pow_le_pow_right (show 0 < 2 by decide) hB
    simpa using this
  have ha : 0 < a := by
    rcases Nat.eq_zero_or_pos a with e | e
    · subst e
      rcases Nat.eq_zero_or_pos i with e2 | e2
      · subst e2; rw [Nat.pow_zero] at h; omega
      · rw [Nat.zero_pow e2] at h; omega
    · exact e
  exact Nat.le_trans h (Nat.pow_le_pow_right ha hi)
theorem nI_neg {m : Nat} (hm : 0 < m) (h : m < 2 ^ 31) : -nI m < 0 := by
  rw [Int32.lt_iff_toInt_lt, sb_negT h, Int32.toInt_zero]
  omega
theorem c_raise {m B : Nat} {ng : Bool} {n : Int32} (hS : RS h b) (hX : RX K N S) (hB : K 0 0 = nI B) (hB0 : 16 ≤ B) (hB2 : B ≤ 512) (hx : vWf (S 63)) (hm : m ≤ 99) (hn : ng = false ∧ n = nI m ∨ ng = true ∧ 0 < m ∧ n = -nI m) (k : ∀ K' N' x66, xo3 K K' → vPost (vPow B (S 63) m ng n) K' N' (va_up S 66 x66) 63 → Q (some (.int (nI (vPow B (S 63) m ng n).1))) (xB h b K')) : ac g l mX11_raise [.ref b, .int (nI 63), .int n] (xB h b K) Q := by
  refine ac_of (by decide) (Nat.le_of_ble_eq_true rfl) ?_
  obtain ⟨y1, y2, y3, y4⟩ := hX.2 63 (by omega)
  obtain ⟨a1, a2, a3, a4, a5, a6, a7⟩ := hx
  have hneg : n < 0 ↔ ng = true := by
    rcases hn with ⟨e1, e2⟩ | ⟨e1, e0, e2⟩
    · rw [e1, e2]
      exact ⟨fun q => absurd q (nI_pos (by omega)), fun q => by cases q⟩
    · rw [e1, e2]
      exact ⟨fun _ => rfl, fun _ => nI_neg e0 (by omega)⟩
  have fal : ∀ f : Nat, 0 < f → vPow B (S 63) m ng n = (f, S 63) → ∀ K' N' x', xo3 K K' → RX K' N' (va_up S 63 x') → Q (some (.int (nI f))) (xB h b K') := by
    intro f hf hr K' N' x' ho hR
    have := k K' N' (S 66) ho ⟨⟨x', by rw [vup_id]; exact hR⟩, fun h0 => by rw [hr] at h0; exact absurd h0 (by show ¬ f = 0; omega)⟩
    rw [hr] at this
    exact this
  have l16 : ¬ ((S 63).1 = 0 ∧ ng = true) → aw g l mX11_raise 16 [(0, .ref b), (1, .int (nI 63)), (2, .int n)] [] (xB h b K) Q := by
    intro hnz
    have l26 : aw g l mX11_raise 26 [(0, .ref b), (1, .int (nI 63)), (2, .int n)] [.int (nI m)] (xB h b K) Q := by
      refine sX11_raise_26 ?_
      refine nX11_raise_27 ?_
      refine sX11_raise_28 ?_
      suffices H : ∀ t i K3 N3 p, i + t = 8 → (∀ j, j < 8 → p j = if j < i then (S 63).2.2.2 j * n else (S 63).2.2.2 j) → xo3 K K3 → RX K3 N3 (va_up S 63 (vP (S 63) p)) → aw g l mX11_raise 30 [(0, .ref b), (1, .int (nI 63)), (2, .int n), (3, .int (nI m)), (4, .int (nI i))] [] (xB h b K3) Q from H 8 0 K N (S 63).2.2.2 rfl (fun j hj => by rw [if_neg (by omega)]) (xo3_rf K) (by
          show RX K N (va_up S 63 (S 63))
          rw [vup_id]; exact hX)
      intro t
      induction t with
      | succ t ih =>
        intro i K3 N3 p hi hp ho3 hR
        refine sX11_raise_30 rfl ?_
        refine nX11_raise_32 ?_
        refine nX11_raise_34 (by omega) (by omega) (fun hc => absurd hc (by omega)) (fun _ => ?_)
        refine sX11_raise_37 rfl ?_
        refine tX11_raise_38 hS ?_
        refine nX11_raise_41 ?_
        refine sX11_raise_43 rfl ?_
        refine nX11_raise_44 ?_
        refine sX11_raise_45 rfl ?_
        refine nX11_raise_47 ?_
        refine sX11_raise_48 rfl rfl ?_
        refine tX11_raise_49 hS (by decide) (by decide) rfl (by simp only [rl]; omega) ?_
        have e0 := (hR.2 63 (by omega)).2.2.2 i (by omega)
        rw [vup_s] at e0
        have e5 : p i = (S 63).2.2.2 i := by rw [hp i (by omega), if_neg (by omega)]
        rw [show K3 3 (8 * 63 + i) = (S 63).2.2.2 i from e0.trans e5]
        refine sX11_raise_50 rfl ?_
        refine sX11_raise_51 ?_
        refine tX11_raise_52 hS (by decide) (by decide) rfl (by simp only [rl]; omega) ?_
        refine nX11_raise_53 rfl ?_
        refine sX11_raise_56 ?_
        have hR2 := RX_pow (v := 63) (i := i) (s := (S 63).2.2.2 i * n) hR (by omega)
        simp only [vup_s, vup_vup] at hR2
        refine ih (i + 1) _ N3 (va_up p i ((S 63).2.2.2 i * n)) (by omega) (fun j hj => ?_) (xo3_tr ho3 (xo3_up (by omega))) hR2
        by_cases e : j = i
        · subst e; rw [vup_s, if_pos (by omega)]
        · rw [vup_n e, hp j hj]
          by_cases e9 : j < i
          · rw [if_pos e9, if_pos (by omega)]
          · rw [if_neg e9, if_neg (by omega)]
      | zero =>
        intro i K3 N3 p hi hp ho3 hR
        obtain rfl : i = 8 := by omega
        have hp : ∀ j, j < 8 → p j = (S 63).2.2.2 j * n := fun j hj => by rw [hp j hj, if_pos hj]
        have hp2 : pOk p ↔ pOk (fun k => (S 63).2.2.2 k * n) := by
          constructor
          · intro q j hj; have := q j hj; rw [hp j hj] at this; exact this
          · intro q j hj; rw [hp j hj]; exact q j hj
        obtain ⟨x1, x2, x3, x4⟩ := hR.2 63 (by omega)
        rw [vup_s] at x1 x2 x3 x4
        have x1 : N3 126 = (S 63).2.1 := x1
        have x2 : N3 127 = (S 63).2.2.1 := x2
        have x3 : K3 2 63 = (S 63).1 := x3
        refine sX11_raise_30 rfl ?_
        refine nX11_raise_32 ?_
        refine nX11_raise_34 (by omega) (by omega) (fun _ => ?_) (fun hc => absurd hc (by omega))
        refine sX11_raise_59 rfl ?_
        refine sX11_raise_60 rfl ?_
        refine tX11_raise_61 hS (Nat.le_of_ble_eq_true rfl) ?_
        refine c_arePowers hS (by omega) x4 (fun hpk => ?_) (fun hpk => ?_)
        rotate_left
        · refine sX11_raise_64 (fun hc => absurd rfl hc) (fun _ => ?_)
          refine nX11_raise_67 ?_
          refine sX11_raise_69 (fal 8 (by decide) ?_ K3 N3 _ ho3 hR)
          unfold vPow
          rw [cIf_f hnz]
          exact cIf_f (fun q => hpk (hp2.mpr q))
        refine sX11_raise_64 (fun _ => ?_) (fun hc => absurd hc (by decide))
        obtain ⟨A, hA⟩ : ∃ A, A = if ng then (S 63).2.2.1 else (S 63).2.1 := ⟨_, rfl⟩
        obtain ⟨C, hC⟩ : ∃ C, C = if ng then (S 63).2.1 else (S 63).2.2.1 := ⟨_, rfl⟩
        obtain ⟨sg, hsg⟩ : ∃ sg : Int32, sg = if m = 0 then 1 else if m % 2 = 0 then (S 63).1 * (S 63).1 else (S 63).1 := ⟨_, rfl⟩
        have hF : vPow B (S 63) m ng n = vFin B (sg, A ^ m, C ^ m, fun k => (S 63).2.2.2 k * n) := by
          unfold vPow
          rw [cIf_f hnz, cIf_t (hp2.mp hpk), hA, hC, hsg]
        have hA5 : A < 2 ^ 512 := by rw [hA]; split <;> assumption
        have hC5 : C < 2 ^ 512 := by rw [hC]; split <;> assumption
        have hz := z1024
        rw [hF] at k
        -- behind the spare numbers and the sign
        have l150 : ∀ K4 N4 x66, xo3 K K4 → RX K4 N4 (va_up (va_up S 66 x66) 63 (vP (S 63) p)) → x66.2.1 = A → x66.2.2.1 = C → aw g l mX11_raise 150 [(0, .ref b), (1, .int (nI 63)), (2, .int n), (3, .int (nI m)), (4, .int (nI 8))] [.int sg] (xB h b K4) Q := by
          intro K4 N4 x66 ho4 hX4 hA6 hC6
          refine sX11_raise_150 ?_
          refine sX11_raise_152 rfl ?_
          refine nX11_raise_153 ?_
          refine sX11_raise_154 rfl ?_
          refine nX11_raise_155 ?_
          refine nX11_raise_156 ?_
          refine tX11_raise_157 hS (Nat.le_of_ble_eq_true rfl) ?_
          refine c_setSmall hS hX4.1 (by omega) (by decide) (fun K5 ho5 hN5 => ?_)
          have hX5 := RX_num hX4 ho5 hN5
          refine sX11_raise_160 rfl ?_
          refine nX11_raise_161 ?_
          refine sX11_raise_162 rfl ?_
          refine nX11_raise_163 ?_
          refine nX11_raise_164 ?_
          refine nX11_raise_165 ?_
          refine nX11_raise_166 ?_
          refine tX11_raise_167 hS (Nat.le_of_ble_eq_true rfl) ?_
          refine c_setSmall hS hN5 (by omega) (by decide) (fun K6 ho6 hN6 => ?_)
          have hX6 := RX_den hX5 ho6 hN6
          simp only [vup_s, vup_vup] at hX6
          refine sX11_raise_170 rfl ?_
          refine tX11_raise_171 hS ?_
          refine sX11_raise_174 rfl ?_
          refine sX11_raise_175 rfl ?_
          refine tX11_raise_177 hS (by decide) (by decide) rfl (by simp only [rl]; omega) ?_
          refine nX11_raise_178 ?_
          refine sX11_raise_179 ?_
          have hX7 := RX_sgn (v := 63) (s := sg) hX6
          simp only [vup_s, vup_vup] at hX7
          suffices H2 : ∀ t i K8 N8, i + t = m → (0 < i → A ^ i < 2 ^ B ∧ C ^ i < 2 ^ B) → xo3 K K8 → RX K8 N8 (va_up (va_up S 66 x66) 63 (sg, A ^ i, C ^ i, p)) → aw g l mX11_raise 181 [(0, .ref b), (1, .int (nI 63)), (2, .int n), (3, .int (nI m)), (4, .int sg), (5, .int (nI i))] [] (xB h b K8) Q from H2 m 0 _ _ (by omega) (fun q => absurd q (by omega)) (xo3_tr ho4 (xo3_tr (xo3_1 (xo1_tr ho5 ho6)) (xo3_up (by omega)))) (by rw [Nat.pow_zero, Nat.pow_zero]; exact hX7)
          intro t
          induction t with
          | zero =>
            intro i K8 N8 hi hsm ho8 hX8
            obtain rfl : i = m := by omega
            refine sX11_raise_181 rfl ?_
            refine sX11_raise_183 rfl ?_
            refine nX11_raise_184 (by omega) (by omega) (fun _ => ?_) (fun hc => absurd hc (by omega))
            refine nX11_raise_254 ?_
            refine sX11_raise_255 ?_
            have hnb : ¬ vBig B (sg, A ^ i, C ^ i, fun k => (S 63).2.2.2 k * n) := by
              rcases Nat.eq_zero_or_pos i with e | e
              · subst e
                have h16 : 2 ^ 16 ≤ 2 ^ B := Nat.pow_le_pow_right (by decide) hB0
                rintro (q | q)
                · rw [show (sg, A ^ 0, C ^ 0, fun k => (S 63).2.2.2 k * n).2.1 = 1 from Nat.pow_zero _] at q; omega
                · rw [show (sg, A ^ 0, C ^ 0, fun k => (S 63).2.2.2 k * n).2.2.1 = 1 from Nat.pow_zero _] at q; omega
              · have := hsm e
                rintro (q | q)
                · exact absurd q (Nat.not_le.mpr this.1)
                · exact absurd q (Nat.not_le.mpr this.2)
            have hr : vFin B (sg, A ^ i, C ^ i, fun k => (S 63).2.2.2 k * n) = (0, (sg, A ^ i, C ^ i, fun k => (S 63).2.2.2 k * n)) := by unfold vFin; exact cIf_f hnb
            have hX9 := RX_v hX8 (y := (sg, A ^ i, C ^ i, fun k => (S 63).2.2.2 k * n)) ⟨rfl, rfl, rfl, hp⟩
            have := k K8 N8 x66 ho8 ⟨⟨_, hX9⟩, fun _ => by rw [hr]; exact hX9⟩
            rw [hr] at this
            exact this
          | succ t ih2 =>
            intro i K8 N8 hi hsm ho8 hX8
            have u1 := (hX8.2 63 (by omega)).1
            have u2 := (hX8.2 63 (by omega)).2.1
            have u3 := (hX8.2 66 (by omega)).1
            have u4 := (hX8.2 66 (by omega)).2.1
            rw [vup_s] at u1 u2
            rw [vup_n (by omega), vup_s] at u3 u4
            have u1 : N8 126 = A ^ i := u1
            have u2 : N8 127 = C ^ i := u2
            have u3 : N8 132 = A := u3.trans hA6
            have u4 : N8 133 = C := u4.trans hC6
            have bnd : A ^ i < 2 ^ 512 ∧ C ^ i < 2 ^ 512 := by
              rcases Nat.eq_zero_or_pos i with e | e
              · subst e; rw [Nat.pow_zero, Nat.pow_zero]; exact ⟨Nat.one_lt_two_pow (by decide), Nat.one_lt_two_pow (by decide)⟩
              · have := hsm e
                have h5 : 2 ^ B ≤ 2 ^ 512 := Nat.pow_le_pow_right (by decide) hB2
                exact ⟨Nat.lt_of_lt_of_le this.1 h5, Nat.lt_of_lt_of_le this.2 h5⟩
            have p1 := zprod bnd.1 hA5
            have p2 := zprod bnd.2 hC5
            refine sX11_raise_181 rfl ?_
            refine sX11_raise_183 rfl ?_
            refine nX11_raise_184 (by omega) (by omega) (fun hc => absurd hc (by omega)) (fun _ => ?_)
            refine sX11_raise_187 rfl ?_
            refine nX11_raise_188 ?_
            refine nX11_raise_191 ?_
            refine sX11_raise_192 rfl ?_
            refine nX11_raise_193 ?_
            refine nX11_raise_194 ?_
            refine tX11_raise_197 hS (Nat.le_of_ble_eq_true rfl) ?_
            refine c_multiply (p := 2 * 63) hS hX8.1 (by omega) (by omega) (by omega) (by omega) (by omega) (by rw [show 2 * 63 = 126 from rfl, u1, u3]; omega) (fun K9 ho9 hN9 => ?_)
            rw [show 2 * 63 = 126 from rfl, u1, u3, ← Nat.pow_succ] at hN9
            have hX9 := RX_scr hX8 ho9 hN9 (zk_up (by omega))
            refine sX11_raise_200 rfl ?_
            refine nX11_raise_201 ?_
            refine sX11_raise_202 rfl ?_
            refine nX11_raise_203 ?_
            refine nX11_raise_204 ?_
            refine tX11_raise_207 hS (Nat.le_of_ble_eq_true rfl) ?_
            refine c_copy hS hN9 (by omega) (by omega) (by omega) (fun K10 ho10 hN10 => ?_)
            rw [zup_s] at hN10
            have hX10 := RX_num hX9 ho10 hN10
            simp only [vup_s, vup_vup] at hX10
            refine sX11_raise_210 rfl ?_
            refine nX11_raise_211 ?_
            refine nX11_raise_214 ?_
            refine sX11_raise_215 rfl ?_
            refine nX11_raise_216 ?_
            refine nX11_raise_217 ?_
            refine nX11_raise_218 ?_
            refine nX11_raise_219 ?_
            refine tX11_raise_222 hS (Nat.le_of_ble_eq_true rfl) ?_
            have f1 : va_up (va_up N8 340 (A ^ (i + 1))) (2 * 63) (A ^ (i + 1)) (2 * 63 + 1) = C ^ i := by rw [zup_n (by omega), zup_n (by omega)]; exact u2
            have f2 : va_up (va_up N8 340 (A ^ (i + 1))) (2 * 63) (A ^ (i + 1)) 133 = C := by rw [zup_n (by omega), zup_n (by omega)]; exact u4
            refine c_multiply (p := 2 * 63 + 1) hS hN10 (by omega) (by omega) (by omega) (by omega) (by omega) (by rw [f1, f2]; omega) (fun K11 ho11 hN11 => ?_)
            rw [f1, f2, ← Nat.pow_succ] at hN11
            have hX11 := RX_scr hX10 ho11 hN11 (zk_up (by omega))
            refine sX11_raise_225 rfl ?_
            refine nX11_raise_226 ?_
            refine sX11_raise_227 rfl ?_
            refine nX11_raise_228 ?_
            refine nX11_raise_229 ?_
            refine nX11_raise_230 ?_
            refine nX11_raise_231 ?_
            refine tX11_raise_234 hS (Nat.le_of_ble_eq_true rfl) ?_
            refine c_copy hS hN11 (by omega) (by omega) (by omega) (fun K12 ho12 hN12 => ?_)
            rw [zup_s] at hN12
            have hX12 := RX_den hX11 ho12 hN12
            simp only [vup_s, vup_vup] at hX12
            have ho13 : xo3 K K12 := xo3_tr ho8 (xo3_1 (xo1_tr ho9 (xo1_tr ho10 (xo1_tr ho11 ho12))))
            refine sX11_raise_237 rfl ?_
            refine sX11_raise_238 rfl ?_
            refine tX11_raise_239 hS (Nat.le_of_ble_eq_true rfl) ?_
            refine c_isLarge (B := B) hS hX12 (by omega) (by rw [ho13 0 (by omega) (by omega) (by omega)]; exact hB) hB2 (fun hb => ?_) (fun hb => ?_)
            · refine sX11_raise_242 (fun hc => absurd hc (by decide)) (fun _ => ?_)
              refine nX11_raise_245 ?_
              refine sX11_raise_247 ?_
              rw [vup_s] at hb
              have hb2 : vBig B (sg, A ^ m, C ^ m, fun k => (S 63).2.2.2 k * n) := by
                rcases hb with q | q
                · exact Or.inl (zpow_big (a := A) (i := i + 1) (m := m) q (by omega) (by omega))
                · exact Or.inr (zpow_big (a := C) (i := i + 1) (m := m) q (by omega) (by omega))
              have hr : vFin B (sg, A ^ m, C ^ m, fun k => (S 63).2.2.2 k * n) = (9, (sg, A ^ m, C ^ m, fun k => (S 63).2.2.2 k * n)) := by unfold vFin; exact cIf_t hb2
              have := k K12 _ x66 ho13 ⟨⟨_, hX12⟩, fun h0 => by rw [hr] at h0; exact absurd h0 (Nat.succ_ne_zero _)⟩
              rw [hr] at this
              exact this
            · refine sX11_raise_242 (fun _ => ?_) (fun hc => absurd rfl hc)
              refine nX11_raise_248 rfl ?_
              refine sX11_raise_251 ?_
              rw [vup_s] at hb
              refine ih2 (i + 1) K12 _ (by omega) (fun _ => ⟨Nat.not_le.mp (fun q => hb (Or.inl q)), Nat.not_le.mp (fun q => hb (Or.inr q))⟩) ho13 hX12
        -- the sign
        have l114 : ∀ K4 N4 x66, xo3 K K4 → RX K4 N4 (va_up (va_up S 66 x66) 63 (vP (S 63) p)) → x66.2.1 = A → x66.2.2.1 = C → aw g l mX11_raise 114 [(0, .ref b), (1, .int (nI 63)), (2, .int n), (3, .int (nI m)), (4, .int (nI 8))] [] (xB h b K4) Q := by
          intro K4 N4 x66 ho4 hX4 hA6 hC6
          have fin := l150 K4 N4 x66 ho4 hX4 hA6 hC6
          have x3 := (hX4.2 63 (by omega)).2.2.1
          rw [vup_s] at x3
          have x3 : K4 2 63 = (S 63).1 := x3
          refine sX11_raise_114 rfl ?_
          refine nX11_raise_115 (by omega) (fun hc => ?_) (fun hc => ?_)
          · refine sX11_raise_122 rfl ?_
            refine nX11_raise_123 ?_
            refine nX11_raise_124 (by omega) (by omega) (by omega) ?_
            refine nX11_raise_125 (by omega) (fun hc2 => ?_) (fun hc2 => ?_)
            · refine sX11_raise_144 rfl ?_
              refine tX11_raise_145 hS ?_
              refine sX11_raise_148 rfl ?_
              refine tX11_raise_149 hS (by decide) (by decide) rfl (by simp only [rl]; omega) ?_
              rw [x3]
              rw [hsg, if_neg hc, if_neg hc2] at fin
              exact fin
            · refine sX11_raise_128 rfl ?_
              refine tX11_raise_129 hS ?_
              refine sX11_raise_132 rfl ?_
              refine tX11_raise_133 hS (by decide) (by decide) rfl (by simp only [rl]; omega) ?_
              rw [x3]
              refine sX11_raise_134 rfl ?_
              refine tX11_raise_135 hS ?_
              refine sX11_raise_138 rfl ?_
              refine tX11_raise_139 hS (by decide) (by decide) rfl (by simp only [rl]; omega) ?_
              rw [x3]
              refine sX11_raise_140 ?_
              refine sX11_raise_141 ?_
              rw [hsg, if_neg hc, if_pos hc2] at fin
              exact fin
          · refine sX11_raise_118 ?_
            refine sX11_raise_119 ?_
            rw [hsg, if_pos hc] at fin
            exact fin
        -- the spare numbers
        have l111 : ∀ i1 i2, N3 i1 = A → N3 i2 = C → i1 < 128 → i2 < 128 → ∀ (K4 : Nat → Nat → Int32) (lv4 : List (Nat × Value)), xo1 K3 K4 → RN K4 (va_up N3 132 (N3 i1)) → (∀ z ∈ ([(0, .ref b), (1, .int (nI 63)), (2, .int n), (3, .int (nI m)), (4, .int (nI 8))] : List (Nat × Value)), z ∈ lv4) → aw g l mX11_raise 111 lv4 [.int (nI i2), .int (nI 133), .ref b] (xB h b K4) Q := by
          intro i1 i2 q1 q2 q3 q4 K4 lv4 ho4 hN4 hl4
          refine aw_lv hl4 ?_
          refine tX11_raise_111 hS (Nat.le_of_ble_eq_true rfl) ?_
          refine c_copy hS hN4 (by omega) (by omega) (by omega) (fun K5 ho5 hN5 => ?_)
          rw [zup_n (show i2 ≠ 132 by omega), q2, q1] at hN5
          rw [q1] at hN4
          have hX4 := RX_num (v := 66) hR ho4 hN4
          have hX5 := RX_den (v := 66) hX4 ho5 hN5
          have hX6 : RX K5 (va_up (va_up N3 (2 * 66) A) (2 * 66 + 1) C) (va_up (va_up S 66 ((S 66).1, A, C, (S 66).2.2.2)) 63 (vP (S 63) p)) := RX_to hX5 (fun w hw => by
            by_cases e1 : w = 66
            · subst e1
              rw [vup_s, vup_s, vup_n (show (66 : Nat) ≠ 63 by omega), vup_n (show (66 : Nat) ≠ 63 by omega), vup_s]
              exact veq_rf _
            · rw [vup_n e1, vup_n e1]
              by_cases e2 : w = 63
              · subst e2; rw [vup_s, vup_s]; exact veq_rf _
              · rw [vup_n e2, vup_n e2, vup_n e1]; exact veq_rf _)
          exact l114 K5 _ ((S 66).1, A, C, (S 66).2.2.2) (xo3_tr ho3 (xo3_1 (xo1_tr ho4 ho5))) hX6 rfl rfl
        refine sX11_raise_70 rfl ?_
        refine nX11_raise_71 ?_
        refine sX11_raise_74 rfl ?_
        cases ng with
        | false =>
          have hnn : ¬ n < 0 := fun q => by have := hneg.mp q; cases this
          refine sX11_raise_75 (fun _ => ?_) (fun hc => absurd (Int32.not_lt.mp hnn) hc)
          refine nX11_raise_86 ?_
          refine sX11_raise_87 rfl ?_
          refine nX11_raise_88 ?_
          refine tX11_raise_89 hS (Nat.le_of_ble_eq_true rfl) ?_
          refine c_copy hS hR.1 (by omega) (by omega) (by omega) (fun K4 ho4 hN4 => ?_)
          refine sX11_raise_92 rfl ?_
          refine nX11_raise_93 ?_
          refine sX11_raise_96 rfl ?_
          refine sX11_raise_97 (fun _ => ?_) (fun hc => absurd (Int32.not_lt.mp hnn) hc)
          refine nX11_raise_106 ?_
          refine sX11_raise_107 rfl ?_
          refine nX11_raise_108 ?_
          refine nX11_raise_109 ?_
          refine nX11_raise_110 ?_
          exact l111 126 127 (by rw [hA]; exact x1) (by rw [hC]; exact x2) (by omega) (by omega) K4 _ ho4 hN4 (fun z hz => hz)
        | true =>
          have hnn : n < 0 := hneg.mpr rfl
          refine sX11_raise_75 (fun hc => absurd hnn (Int32.not_lt.mpr hc)) (fun _ => ?_)
          refine nX11_raise_78 ?_
          refine sX11_raise_79 rfl ?_
          refine nX11_raise_80 ?_
          refine nX11_raise_81 ?_
          refine nX11_raise_82 ?_
          refine sX11_raise_83 ?_
          refine tX11_raise_89 hS (Nat.le_of_ble_eq_true rfl) ?_
          refine c_copy hS hR.1 (by omega) (by omega) (by omega) (fun K4 ho4 hN4 => ?_)
          refine sX11_raise_92 rfl ?_
          refine nX11_raise_93 ?_
          refine sX11_raise_96 rfl ?_
          refine sX11_raise_97 (fun hc => absurd hnn (Int32.not_lt.mpr hc)) (fun _ => ?_)
          refine nX11_raise_100 ?_
          refine sX11_raise_101 rfl ?_
          refine nX11_raise_102 ?_
          refine sX11_raise_103 ?_
          exact l111 127 126 (by rw [hA]; exact x2) (by rw [hC]; exact x1) (by omega) (by omega) K4 _ ho4 hN4 (fun z hz => hz)
    refine sX11_raise_16 rfl ?_
    rcases hn with ⟨e1, e2⟩ | ⟨e1, e0, e2⟩
    · have hnn : ¬ n < 0 := fun q => by have := hneg.mp q; rw [e1] at this; cases this
      refine sX11_raise_17 (fun _ => ?_) (fun hc => absurd (Int32.not_lt.mp hnn) hc)
      refine sX11_raise_25 rfl ?_
      rw [← e2] at l26
      exact l26
    · have hnn : n < 0 := hneg.mpr e1
      refine sX11_raise_17 (fun hc => absurd hnn (Int32.not_lt.mpr hc)) (fun _ => ?_)
      refine sX11_raise_20 rfl ?_
      refine sX11_raise_21 ?_
      refine sX11_raise_22 ?_
      rw [show -n = nI m by rw [e2]; exact Int32.neg_neg]
      exact l26
  refine sX11_raise_0 rfl ?_
  refine tX11_raise_1 hS ?_
  refine sX11_raise_4 rfl ?_
  refine tX11_raise_5 hS (by decide) (by decide) rfl (by simp only [rl]; omega) ?_
  rw [y3]
  refine sX11_raise_6 (fun hc => l16 (fun q => hc q.1)) (fun hc => ?_)
  refine sX11_raise_9 rfl ?_
  refine sX11_raise_10 (fun hc2 => l16 (fun q => absurd (hneg.mpr q.2) (Int32.not_lt.mpr hc2))) (fun hc2 => ?_)
  refine nX11_raise_13 ?_
  refine sX11_raise_15 (fal 6 (by decide) ?_ K N _ (xo3_rf K) (by rw [vup_id]; exact hX))
  unfold vPow
  exact cIf_t ⟨hc, hneg.mp (Int32.not_le.mp hc2)⟩
end RefRaise
