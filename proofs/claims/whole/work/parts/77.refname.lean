section RefName
variable {g : xG} {l : Launch} {h : xH} {b : Nat} {K : Nat → Nat → Int32} {N : Nat → Nat} {S : Nat → Vl} {Q : Option Value → xH → Prop} {C : Nat → Nat} {m d n lo B : Nat} {E : Nat → Option (Nat × Vl)} {so ln : Nat → Nat} {nm : Nat → Nat → Nat} {c : Nat}
theorem mr_lt {a k : Nat} : ∀ j, (∀ i, (mr so ln nm c C a k j).1 = some i → i < c) ∧ (∀ i, (mr so ln nm c C a k j).2 = some i → i < c)
  | 0 => ⟨fun i z => (by cases z), fun i z => (by cases z)⟩
  | j + 1 => by
    unfold mr
    split
    · exact mr_lt j
    · exact ⟨fun i z => fX_lt z, fun i z => fT_lt z⟩
theorem mng_lt {a k : Nat} : (∀ i, (mng so ln nm c C a k).1 = some i → i < c) ∧ (∀ i, (mng so ln nm c C a k).2 = some i → i < c) := by
  unfold mng
  split
  · exact mr_lt _
  · exact ⟨fun i z => (by cases z), fun i z => fT_lt z⟩
theorem sN_a {t p : Nat} {V : List Vl} (h : E t = none) : sN B E (none, some t) p V = rNeed t := by simp only [sN, h]
theorem sN_b {t p : Nat} {V : List Vl} {r : Nat × Vl} (h : E t = some r) : sN B E (none, some t) p V = rFin r p V := by simp only [sN, h]
theorem sN_c {k t p : Nat} {V : List Vl} (h : E k = none) : sN B E (some k, some t) p V = rNeed k := by simp only [sN, h]
theorem sN_d {k t p : Nat} {V : List Vl} {r : Nat × Vl} (h : E k = some r) (h0 : r.1 ≠ 0) : sN B E (some k, some t) p V = rBad r.1 p := by simp only [sN, h, if_neg h0]
theorem sN_e {k t p : Nat} {V : List Vl} {r : Nat × Vl} (h : E k = some r) (h0 : r.1 = 0) (h1 : E t = none) : sN B E (some k, some t) p V = rNeed t := by simp only [sN, h, if_pos h0, h1]
theorem sN_f {k t p : Nat} {V : List Vl} {r r' : Nat × Vl} (h : E k = some r) (h0 : r.1 = 0) (h1 : E t = some r') : sN B E (some k, some t) p V = if r'.1 = 0 then rFin (vMul B r.2 r'.2) p V else rBad r'.1 p := by simp only [sN, h, if_pos h0, h1]
theorem c_readName {a : Nat} (hS : RS h b) (hX : RX K N S) (hT : RT K C m d n lo) (hL : RLx K C m d lo a) (h2 : tkK C m a = 2) (h29 : K 0 29 = nI 0) (h31 : K 0 31 = -1) (hB : K 0 0 = nI B) (hB2 : B ≤ 512) (h28 : K 0 28 = nI c) (hc : c ≤ 100) (hM : RM K so ln nm c) (hE : RE K S E c) (hu : ∀ k k', k < c → k' < c → so k = 2 → so k' = 2 → ln k = ln k' → (∀ i, i < ln k → nm k i = nm k' i) → k = k')
    (kOk : ∀ K' N' v, fR K K' → RX K' N' (va_up S 63 v) → K' 0 29 = nI 0 → K' 0 31 = -1 → vWf v → (∀ L V, exe B C m E (mng so ln nm c C) ((2, a, tlen C m a) :: L) V = exe B C m E (mng so ln nm c C) L (v :: V)) → Q none (xB h b K'))
    (kBad : ∀ K' N' v f, fR K K' → RX K' N' (va_up S 63 v) → f ≠ 0 → f < 100 → K' 0 29 = nI f → K' 0 30 = nI (a - d) → K' 0 31 = -1 → (∀ L V, exe B C m E (mng so ln nm c C) ((2, a, tlen C m a) :: L) V = rBad f a) → Q none (xB h b K'))
    (kNeed : ∀ K' j, fR K K' → RX K' N S → j < c → K' 0 29 = nI 0 → K' 0 31 = nI j → E j = none → (∀ L V, exe B C m E (mng so ln nm c C) ((2, a, tlen C m a) :: L) V = rNeed j) → Q none (xB h b K')) : ac g l mX11_readName [.ref b] (xB h b K) Q := by
  refine ac_of (by decide) (Nat.le_of_ble_eq_true rfl) ?_
  have hC := hT.1
  have hm := hC.1
  obtain ⟨l1, l2, l3, l4, l5⟩ := hL
  have ham : a < m := tkK_lt (C := C) (by omega)
  have tg := tkT_gt (C := C) ham
  have tl := tkT_le hC l2
  refine sX11_readName_0 rfl ?_
  refine sX11_readName_1 rfl ?_
  refine tX11_readName_2 hS ?_
  rw [l3]
  refine sX11_readName_5 rfl ?_
  refine tX11_readName_6 hS ?_
  rw [l4]
  refine sX11_readName_9 rfl ?_
  refine tX11_readName_10 hS ?_
  rw [h28]
  refine tX11_readName_13 hS (Nat.le_of_ble_eq_true rfl) ?_
  refine c_standsFor hS hT hM l1 tg tl hu (fun K1 o1 o2 e25 e26 => ?_)
  have F1 : fR K K1 := ⟨fun r a0 _ _ _ => o1 r a0, fun j hj => o2 j (by omega) (by omega)⟩
  have x1 : RX K1 N S := RX_row (o1 1 (by decide)) (o1 2 (by decide)) (o1 3 (by decide)) hX
  have w1 : K1 0 29 = nI 0 := by rw [o2 29 (by decide) (by decide)]; exact h29
  have y1 : K1 0 31 = -1 := by rw [o2 31 (by decide) (by decide)]; exact h31
  have f23 : K1 0 23 = nI (a - d) := by rw [o2 23 (by decide) (by decide)]; exact l3
  have hB1 : K1 0 0 = nI B := by rw [o2 0 (by decide) (by decide)]; exact hB
  have r13 : K1 13 = K 13 := o1 13 (by decide)
  have r12 : K1 12 = K 12 := o1 12 (by decide)
  have lt := mng_lt (so := so) (ln := ln) (nm := nm) (c := c) (C := C) (a := a) (k := tkT C m a - a)
  have est : ∀ V, stp B C m E (mng so ln nm c C) (2, a, tlen C m a) V = sN B E (mng so ln nm c C a (tkT C m a - a)) a V := fun V => stp_name
  obtain ⟨p, hp⟩ : ∃ p, p = mng so ln nm c C a (tkT C m a - a) := ⟨_, rfl⟩
  rw [← hp] at e25 e26 lt est
  obtain ⟨pk, pt⟩ := p
  have neg : ¬ (0 : Int32) ≤ -1 := by decide
  cases pt with
  | none =>
    have e26' : K1 0 26 = -1 := e26
    have ex : ∀ L V, exe B C m E (mng so ln nm c C) ((2, a, tlen C m a) :: L) V = rBad 5 a := fun L V => exe_bad (by rw [est]; cases pk <;> rfl)
    refine sX11_readName_16 rfl ?_
    refine tX11_readName_17 hS ?_
    rw [e26']
    refine sX11_readName_20 (fun z => absurd z neg) (fun _ => ?_)
    refine sX11_readName_23 rfl ?_
    refine nX11_readName_24 ?_
    refine sX11_readName_25 rfl ?_
    refine tX11_readName_26 hS ?_
    rw [f23]
    refine tX11_readName_29 hS (Nat.le_of_ble_eq_true rfl) ?_
    refine c_fails hS (by decide) w1 (fun y => absurd y (by decide)) (fun _ => ?_)
    refine sX11_readName_32 rfl ?_
    exact sX11_readName_33 (kBad _ N (S 63) 5 (fR_t F1 fR_w) (by rw [vup_id]; exact RX_row0 (RX_row0 x1)) (by decide) (by decide) (by rw [xup2_n (by decide), xup2_s]) (by rw [xup2_s]) (by rw [xup2_n (by decide), xup2_n (by decide)]; exact y1) ex)
  | some t =>
    have ht := lt.2 t rfl
    have e26' : K1 0 26 = nI t := e26
    obtain ⟨et0, et1⟩ := hE t ht
    refine sX11_readName_16 rfl ?_
    refine tX11_readName_17 hS ?_
    rw [e26']
    refine nX11_readName_20 (by omega) ?_
    refine sX11_readName_34 rfl ?_
    refine tX11_readName_35 hS ?_
    cases pk with
    | none =>
      have e25' : K1 0 25 = -1 := e25
      rw [e25']
      refine sX11_readName_38 (fun _ => ?_) (fun z => absurd (show (-1 : Int32) < 0 by decide) z)
      refine sX11_readName_63 rfl ?_
      refine tX11_readName_64 hS ?_
      rw [e25']
      refine sX11_readName_67 (fun _ => ?_) (fun z => absurd (show (-1 : Int32) < 0 by decide) z)
      refine sX11_readName_91 rfl ?_
      refine tX11_readName_92 hS ?_
      refine sX11_readName_95 rfl ?_
      refine tX11_readName_96 hS ?_
      rw [e26']
      refine tX11_readName_99 hS (by decide) (by decide) rfl (by simp only [rl]; omega) ?_
      rw [r13]
      cases eE : E t with
      | none =>
        have ex : ∀ L V, exe B C m E (mng so ln nm c C) ((2, a, tlen C m a) :: L) V = rNeed t := fun L V => exe_need (by rw [est, sN_a eE])
        refine nX11_readName_100 ?_
        refine sX11_readName_101 (fun z => absurd z (et0 eE)) (fun _ => ?_)
        refine sX11_readName_104 rfl ?_
        refine sX11_readName_105 rfl ?_
        refine tX11_readName_106 hS ?_
        rw [e26']
        refine tX11_readName_109 hS ?_
        exact sX11_readName_112 (kNeed _ t (fR_t F1 ⟨fun r a0 _ _ _ => xup2_r a0, fun j hj => xup2_n (by omega)⟩) (RX_row0 x1) ht (by rw [xup2_n (by decide)]; exact w1) xup2_s eE ex)
      | some r =>
        obtain ⟨u1, u2, u3, u4⟩ := et1 r eE
        have est' : ∀ V, stp B C m E (mng so ln nm c C) (2, a, tlen C m a) V = rFin r a V := fun V => by rw [est, sN_b eE]
        rw [u1]
        refine nX11_readName_100 ?_
        refine sX11_readName_101 (fun _ => ?_) (fun z => absurd rfl z)
        refine sX11_readName_113 rfl ?_
        refine sX11_readName_114 rfl ?_
        refine tX11_readName_115 hS ?_
        refine sX11_readName_118 rfl ?_
        refine tX11_readName_119 hS ?_
        rw [e26']
        refine tX11_readName_122 hS (by decide) (by decide) rfl (by simp only [rl]; omega) ?_
        rw [r12, u2]
        refine sX11_readName_123 rfl ?_
        refine tX11_readName_124 hS ?_
        rw [f23]
        refine tX11_readName_127 hS (Nat.le_of_ble_eq_true rfl) ?_
        refine c_fails hS (by omega) w1 (fun q0 => ?_) (fun q0 => ?_)
        · refine sX11_readName_130 (fun _ => ?_) (fun y => absurd rfl y)
          obtain ⟨u5, u6⟩ := u4 q0
          refine sX11_readName_134 rfl ?_
          refine nX11_readName_135 ?_
          refine nX11_readName_137 ?_
          refine sX11_readName_139 rfl ?_
          refine tX11_readName_140 hS ?_
          rw [e25']
          refine sX11_readName_143 (fun _ => ?_) (fun z => absurd (show (-1 : Int32) < 0 by decide) z)
          refine sX11_readName_153 rfl ?_
          refine tX11_readName_154 hS ?_
          rw [e26']
          refine nX11_readName_157 ?_
          refine tX11_readName_158 hS (Nat.le_of_ble_eq_true rfl) ?_
          refine c_take hS x1 (by decide) (by omega) (by omega) (fun K2 N2 o3 x2 => ?_)
          rw [u5] at x2
          have o30 : K2 0 = K1 0 := o3 0 (by decide) (by decide) (by decide)
          refine sX11_readName_161 rfl ?_
          refine tX11_readName_162 hS ?_
          rw [o30, e25']
          refine sX11_readName_165 (fun _ => ?_) (fun z => absurd (show (-1 : Int32) < 0 by decide) z)
          exact sX11_readName_191 (kOk K2 N2 r.2 (fR_t F1 (fR_3 o3)) x2 (by rw [o30]; exact w1) (by rw [o30]; exact y1) u6 (fun L V => exe_ok (by rw [est', rFin_0 q0])))
        · refine sX11_readName_130 (fun y => absurd y (by decide)) (fun _ => ?_)
          exact sX11_readName_133 (kBad _ N (S 63) r.1 (fR_t F1 fR_w) (by rw [vup_id]; exact RX_row0 (RX_row0 x1)) q0 u3 (by rw [xup2_n (by decide), xup2_s]) (by rw [xup2_s]) (by rw [xup2_n (by decide), xup2_n (by decide)]; exact y1) (fun L V => exe_bad (by rw [est', rFin_1 q0])))
    | some k =>
      have hk := lt.1 k rfl
      have e25' : K1 0 25 = nI k := e25
      obtain ⟨ek0, ek1⟩ := hE k hk
      rw [e25']
      refine nX11_readName_38 (by omega) ?_
      refine sX11_readName_41 rfl ?_
      refine tX11_readName_42 hS ?_
      refine sX11_readName_45 rfl ?_
      refine tX11_readName_46 hS ?_
      rw [e25']
      refine tX11_readName_49 hS (by decide) (by decide) rfl (by simp only [rl]; omega) ?_
      rw [r13]
      cases eK : E k with
      | none =>
        have ex : ∀ L V, exe B C m E (mng so ln nm c C) ((2, a, tlen C m a) :: L) V = rNeed k := fun L V => exe_need (by rw [est, sN_c eK])
        refine nX11_readName_50 ?_
        refine sX11_readName_51 (fun z => absurd z (ek0 eK)) (fun _ => ?_)
        refine sX11_readName_54 rfl ?_
        refine sX11_readName_55 rfl ?_
        refine tX11_readName_56 hS ?_
        rw [e25']
        refine tX11_readName_59 hS ?_
        exact sX11_readName_62 (kNeed _ k (fR_t F1 ⟨fun r a0 _ _ _ => xup2_r a0, fun j hj => xup2_n (by omega)⟩) (RX_row0 x1) hk (by rw [xup2_n (by decide)]; exact w1) xup2_s eK ex)
      | some r =>
        obtain ⟨u1, u2, u3, u4⟩ := ek1 r eK
        rw [u1]
        refine nX11_readName_50 ?_
        refine sX11_readName_51 (fun _ => ?_) (fun z => absurd rfl z)
        refine sX11_readName_63 rfl ?_
        refine tX11_readName_64 hS ?_
        rw [e25']
        refine nX11_readName_67 (by omega) ?_
        refine sX11_readName_70 rfl ?_
        refine sX11_readName_71 rfl ?_
        refine tX11_readName_72 hS ?_
        refine sX11_readName_75 rfl ?_
        refine tX11_readName_76 hS ?_
        rw [e25']
        refine tX11_readName_79 hS (by decide) (by decide) rfl (by simp only [rl]; omega) ?_
        rw [r12, u2]
        refine sX11_readName_80 rfl ?_
        refine tX11_readName_81 hS ?_
        rw [f23]
        refine tX11_readName_84 hS (Nat.le_of_ble_eq_true rfl) ?_
        refine c_fails hS (by omega) w1 (fun q0 => ?_) (fun q0 => ?_)
        · refine sX11_readName_87 (fun _ => ?_) (fun y => absurd rfl y)
          obtain ⟨u5, u6⟩ := u4 q0
          refine sX11_readName_91 rfl ?_
          refine tX11_readName_92 hS ?_
          refine sX11_readName_95 rfl ?_
          refine tX11_readName_96 hS ?_
          rw [e26']
          refine tX11_readName_99 hS (by decide) (by decide) rfl (by simp only [rl]; omega) ?_
          rw [r13]
          cases eE : E t with
          | none =>
            have ex : ∀ L V, exe B C m E (mng so ln nm c C) ((2, a, tlen C m a) :: L) V = rNeed t := fun L V => exe_need (by rw [est, sN_e eK q0 eE])
            refine nX11_readName_100 ?_
            refine sX11_readName_101 (fun z => absurd z (et0 eE)) (fun _ => ?_)
            refine sX11_readName_104 rfl ?_
            refine sX11_readName_105 rfl ?_
            refine tX11_readName_106 hS ?_
            rw [e26']
            refine tX11_readName_109 hS ?_
            exact sX11_readName_112 (kNeed _ t (fR_t F1 ⟨fun r a0 _ _ _ => xup2_r a0, fun j hj => xup2_n (by omega)⟩) (RX_row0 x1) ht (by rw [xup2_n (by decide)]; exact w1) xup2_s eE ex)
          | some r' =>
            obtain ⟨t1, t2, t3, t4⟩ := et1 r' eE
            have est' : ∀ V, stp B C m E (mng so ln nm c C) (2, a, tlen C m a) V = if r'.1 = 0 then rFin (vMul B r.2 r'.2) a V else rBad r'.1 a := fun V => by rw [est, sN_f eK q0 eE]
            rw [t1]
            refine nX11_readName_100 ?_
            refine sX11_readName_101 (fun _ => ?_) (fun z => absurd rfl z)
            refine sX11_readName_113 rfl ?_
            refine sX11_readName_114 rfl ?_
            refine tX11_readName_115 hS ?_
            refine sX11_readName_118 rfl ?_
            refine tX11_readName_119 hS ?_
            rw [e26']
            refine tX11_readName_122 hS (by decide) (by decide) rfl (by simp only [rl]; omega) ?_
            rw [r12, t2]
            refine sX11_readName_123 rfl ?_
            refine tX11_readName_124 hS ?_
            rw [f23]
            refine tX11_readName_127 hS (Nat.le_of_ble_eq_true rfl) ?_
            refine c_fails hS (by omega) w1 (fun q1 => ?_) (fun q1 => ?_)
            · refine sX11_readName_130 (fun _ => ?_) (fun y => absurd rfl y)
              obtain ⟨t5, t6⟩ := t4 q1
              refine sX11_readName_134 rfl ?_
              refine nX11_readName_135 ?_
              refine nX11_readName_137 ?_
              refine sX11_readName_139 rfl ?_
              refine tX11_readName_140 hS ?_
              rw [e25']
              refine nX11_readName_143 (by omega) ?_
              refine sX11_readName_146 rfl ?_
              refine tX11_readName_147 hS ?_
              rw [e25']
              refine sX11_readName_150 ?_
              refine nX11_readName_157 ?_
              refine tX11_readName_158 hS (Nat.le_of_ble_eq_true rfl) ?_
              refine c_take hS x1 (by decide) (by omega) (by omega) (fun K2 N2 o3 x2 => ?_)
              rw [u5] at x2
              have o30 : K2 0 = K1 0 := o3 0 (by decide) (by decide) (by decide)
              refine sX11_readName_161 rfl ?_
              refine tX11_readName_162 hS ?_
              rw [o30, e25']
              refine nX11_readName_165 (by omega) ?_
              refine sX11_readName_168 rfl ?_
              refine sX11_readName_169 rfl ?_
              refine nX11_readName_170 ?_
              refine nX11_readName_172 ?_
              refine sX11_readName_174 rfl ?_
              refine tX11_readName_175 hS ?_
              rw [o30, e26']
              refine nX11_readName_178 ?_
              refine sX11_readName_179 ?_
              refine tX11_readName_180 hS (Nat.le_of_ble_eq_true rfl) ?_
              have s1 : va_up S 63 r.2 63 = r.2 := vup_s
              have s2 : va_up S 63 r.2 (68 + t) = r'.2 := by rw [vup_n (by omega)]; exact t5
              refine c_product hS x2 (by decide) (by omega) (by omega) (by rw [o30]; exact hB1) hB2 (by rw [s1]; exact u6) (by rw [s2]; exact t6) (fun K3 N3 o4 p4 => ?_)
              rw [s1, s2] at p4 ⊢
              have o40 : K3 0 = K1 0 := (o4 0 (by decide) (by decide) (by decide)).trans o30
              have F3 : fR K K3 := fR_t F1 (fR_t (fR_3 o3) (fR_3 o4))
              have cb := cd_mul (B := B) (x := r.2) (y := r'.2)
              refine sX11_readName_183 rfl ?_
              refine tX11_readName_184 hS ?_
              rw [o40, f23]
              refine tX11_readName_187 hS (Nat.le_of_ble_eq_true rfl) ?_
              refine c_fails hS (by omega) (by rw [o40]; exact w1) (fun q2 => ?_) (fun q2 => ?_)
              · refine sX11_readName_190 rfl ?_
                have x3 := p4.2 q2
                rw [vup_vup] at x3
                exact sX11_readName_191 (kOk K3 N3 _ F3 x3 (by rw [o40]; exact w1) (by rw [o40]; exact y1) (vWf_mul hB2 u6 t6 q2) (fun L V => exe_ok (by rw [est', if_pos q1, rFin_0 q2])))
              · obtain ⟨x', px⟩ := p4.1
                rw [vup_vup] at px
                refine sX11_readName_190 rfl ?_
                exact sX11_readName_191 (kBad _ N3 x' _ (fR_t F3 fR_w) (RX_row0 (RX_row0 px)) q2 (by omega) (by rw [xup2_n (by decide), xup2_s]) (by rw [xup2_s]) (by rw [xup2_n (by decide), xup2_n (by decide), o40]; exact y1) (fun L V => exe_bad (by rw [est', if_pos q1, rFin_1 q2])))
            · refine sX11_readName_130 (fun y => absurd y (by decide)) (fun _ => ?_)
              exact sX11_readName_133 (kBad _ N (S 63) r'.1 (fR_t F1 fR_w) (by rw [vup_id]; exact RX_row0 (RX_row0 x1)) q1 t3 (by rw [xup2_n (by decide), xup2_s]) (by rw [xup2_s]) (by rw [xup2_n (by decide), xup2_n (by decide)]; exact y1) (fun L V => exe_bad (by rw [est', if_neg q1])))
        · refine sX11_readName_87 (fun y => absurd y (by decide)) (fun _ => ?_)
          exact sX11_readName_90 (kBad _ N (S 63) r.1 (fR_t F1 fR_w) (by rw [vup_id]; exact RX_row0 (RX_row0 x1)) q0 u3 (by rw [xup2_n (by decide), xup2_s]) (by rw [xup2_s]) (by rw [xup2_n (by decide), xup2_n (by decide)]; exact y1) (fun L V => exe_bad (by rw [est, sN_d eK q0])))
end RefName
