/-! ===== the reference: define, forget ===== -/
theorem RF_end {T : Nat → Nat} {fr to n c : Nat} {D : Nat → Df} {res : Option (Nat × Nat)} {c' : Nat} {D' : Nat → Df} (h : RF T fr to n to c D res c' D') : res = none ∧ c' = c ∧ D' = D := by
  have e1 : utl T to to 10 = to := rnd_stop (Or.inr (Nat.le_refl _))
  have e2 : lnM T to to = to := by unfold lnM; rw [e1]; exact rnd_stop (Or.inr (Nat.le_refl _))
  have e3 : lnA T to to = to := by unfold lnA; rw [e2]; exact rnd_stop (Or.inr (Nat.le_refl _))
  cases n with
  | zero => have := h.1; omega
  | succ n =>
    obtain ⟨-, h⟩ := h
    rw [e1, e2, e3] at h
    have k0 : tkK (cT T to) to to = 0 := tkK_0 (Nat.le_refl _)
    rcases h with ⟨f, p, ⟨y, -⟩, -⟩ | ⟨c1, D1, lo, r⟩
    · exact absurd k0 y
    · rcases lo with ⟨-, rfl, rfl⟩ | ⟨y, -⟩
      · cases n with
        | zero => exact r.2
        | succ n => have := r.1; omega
      · rw [k0] at y; cases y
theorem RF_eq {T : Nat → Nat} {fr to : Nat} : ∀ {n s c : Nat} {D : Nat → Df} {res : Option (Nat × Nat)} {c' : Nat} {D' : Nat → Df}, RF T fr to n s c D res c' D' → c' = c → D' = D
  | 0, _, _, _, _, _, _, ⟨_, _, _, e⟩, _ => e
  | n + 1, s, c, D, res, c', D', ⟨_, h⟩, hc => by
    rcases h with ⟨f, p, -, -, -, e⟩ | ⟨c1, D1, lo, r⟩
    · exact e
    · have p1 := (RF_pre r).1
      rcases lo with ⟨-, e1, e2⟩ | ⟨-, L, e, -, -, -, -, e1, -⟩
      · subst e1; subst e2; exact RF_eq r hc
      · omega
theorem LO_ok {C : Nat → Nat} {m a c c1 : Nat} {D D1 : Nat → Df} (hC : tOk C m) (hm : m ≤ 10240) (hD : DB c D) (hte : eO (fte D) c ≤ a) (ham : a ≤ m) (h : LO C m a c D c1 D1) : DB c1 D1 ∧ eO (fte D1) c1 ≤ m := by
  rcases h with ⟨-, rfl, rfl⟩ | ⟨h2, L, e, hg, nt, nm, hl, rfl, hr⟩
  · exact ⟨hD, by omega⟩
  · refine ⟨LO_DB hC hm hD hte h2 hg nt nm hl hr, ?_⟩
    show fte D1 c ≤ m
    rw [(rec_f hr).2.2.2.2.2.2.2.2.2.2.2.2.2.1]
    exact Nat.le_refl _
theorem dM_ok (c : Nat) (D : Nat → Df) : ∀ k, mgOk c (dM c D k) := fun k a n => mng_lt
theorem kn_un {B c k : Nat} {D : Nat → Df} {r r' : Nat × Vl} (hk : k < c) (h : kn B c D k r) (h' : kn B c D k r') : r = r' := by
  obtain ⟨f, e⟩ := h
  obtain ⟨f', e'⟩ := h'
  exact dn_un (dM_ok c D) hk e e'
theorem KN_fn {B c : Nat} {D : Nat → Df} {E : Nat → Option (Nat × Vl)} (h : KN B c D E) : ∀ k, k < c → fn B c D k := fun k hk => by
  obtain ⟨r, -, -, f, e⟩ := h k hk
  exact ⟨f, r, e⟩
/-- what the reference knows, all being known -/
def RK (K : Nat → Nat → Int32) (S : Nat → Vl) (E : Nat → Option (Nat × Vl)) (c : Nat) : Prop := ∀ k, k < c → ∃ r, E k = some r ∧ K 12 k = nI r.1 ∧ r.1 < 100 ∧ K 13 k = nI 1 ∧ (r.1 = 0 → S (68 + k) = r.2 ∧ vWf r.2)
def RI (h : xH) (b : Nat) (K : Nat → Nat → Int32) (B c : Nat) (D : Nat → Df) (E : Nat → Option (Nat × Vl)) (ts : Nat) (tp : Nat → Nat) (V : Vl) (fl gv : Nat) : Prop :=
  RS h b ∧ K 0 0 = nI B ∧ (∃ N S, RX K N S ∧ S 67 = V ∧ RK K S E c) ∧ (K 0 5 = nI ts ∧ ∀ i, i < ts → K 4 i = nI (tp i)) ∧ K 0 6 = nI c ∧ RB K c D ∧ K 0 14 = nI (eO (ftt D) c) ∧ K 0 18 = nI fl ∧ K 0 19 = nI gv
theorem RI_E {h : xH} {b : Nat} {K : Nat → Nat → Int32} {B c : Nat} {D : Nat → Df} {E E' : Nat → Option (Nat × Vl)} {ts : Nat} {tp : Nat → Nat} {V : Vl} {fl gv : Nat} (h1 : KN B c D E) (h2 : KN B c D E') (hI : RI h b K B c D E ts tp V fl gv) : RI h b K B c D E' ts tp V fl gv := by
  obtain ⟨i1, i2, ⟨N, S, x, s, rk⟩, i4, i5, i6, i7, i8, i9⟩ := hI
  refine ⟨i1, i2, ⟨N, S, x, s, fun k hk => ?_⟩, i4, i5, i6, i7, i8, i9⟩
  obtain ⟨r, er, q⟩ := rk k hk
  obtain ⟨r1, e1, -, k1⟩ := h1 k hk
  obtain ⟨r2, e2, -, k2⟩ := h2 k hk
  have a1 : r = r1 := Option.some.inj (er.symm.trans e1)
  have a2 : r1 = r2 := kn_un hk k1 k2
  exact ⟨r, by rw [e2, a1, a2], q⟩
/-- rows in define's loop -/
def fMM (K K' : Nat → Nat → Int32) : Prop := (∀ r, r = 4 ∨ r = 12 ∨ r = 13 ∨ r = 14 → K' r = K r) ∧ ∀ j, j < 20 → K' 0 j = K 0 j
theorem fMM_t {K K1 K2 : Nat → Nat → Int32} (a : fMM K K1) (c : fMM K1 K2) : fMM K K2 := ⟨fun r hr => (c.1 r hr).trans (a.1 r hr), fun j hj => (c.2 j hj).trans (a.2 j hj)⟩
theorem fMM_N {K K' : Nat → Nat → Int32} (a : fN K K') : fMM K K' := ⟨a.1, fun j hj => a.2 j (by omega)⟩
section RDef
variable {g : xG} {l : Launch} {h : xH} {b : Nat} {K : Nat → Nat → Int32} {Q : Option Value → xH → Prop} {B c ts fl gv : Nat} {D : Nat → Df} {E : Nat → Option (Nat × Vl)} {tp : Nat → Nat} {V : Vl}
/-- settle, all of these DEFINITIONS being known to end -/
theorem c_rset {N : Nat → Nat} {S : Nat → Vl} (hS : RS h b) (hX : RX K N S) (hB : K 0 0 = nI B) (hB0 : 16 ≤ B) (hB2 : B ≤ 512) (hD : DB c D) (hRB : RB K c D) (hall : ∀ k, k < c → fn B c D k) (k : ∀ K' N' S' E', fG K K' → RX K' N' S' → S' 67 = S 67 → KN B c D E' → RK K' S' E' c → Q (some (.int (-1))) (xB h b K')) : ac g l mX11_settle [.ref b, .int (nI c)] (xB h b K) Q := by
  refine c_rsettle (mg := dM c D) (bv := bvO (fbn D)) (fun _ => rfl) rfl hS hX (RB_D hD hRB) hB hB0 hB2 (fun K' N' S' E' fg rx all s65 s67 => ?_) (fun K' N' S' j fg rx hj nf af s65 s67 => absurd (hall j hj) nf)
  refine k K' N' S' E' fg rx s67 (fun k hk => ?_) (fun k hk => ?_)
  · obtain ⟨r, e, a1, a2, a3, a4, a5, a6⟩ := all k hk
    exact ⟨r, e, a3, a6⟩
  · obtain ⟨r, e, a1, a2, a3, a4, a5, a6⟩ := all k hk
    exact ⟨r, e, a1, a2, a4, a5⟩
theorem c_define11 {TT : Nat → Nat} {fr to nL c2 : Nat} {D2 : Nat → Df} {res : Option (Nat × Nat)} (hI : RI h b K B c D E ts tp V fl gv) (hB0 : 16 ≤ B) (hB2 : B ≤ 512) (hD : DB c D) (hK : KN B c D E) (hts : ts ≤ 4000) (hto : to = fr + ts) (ht10 : to ≤ 10240) (hfr : eO (fte D) c ≤ fr) (hT : ∀ q, q < 10240 → TT q < 256) (hTT : ∀ p, p < ts → TT (p + fr) = tp p) (rf : RF TT fr to nL fr c D res c2 D2) (hD2 : DB c2 D2)
    (kA : ∀ f p, res = some (f, p) → ∀ K', RI h b K' B c D E 0 tp V f gv → Q (some (.int (-10 - nI p))) (xB h b K'))
    (kB : res = none → ∀ j, j < c2 → ¬ fn B c2 D2 j → (∀ i, i < j → fn B c2 D2 i) → ∀ K', RI h b K' B c D E 0 tp V 4 gv → Q (some (.int (-10 - nI j))) (xB h b K'))
    (kC : res = none → ∀ K' E', KN B c2 D2 E' → RI h b K' B c2 D2 E' 0 tp V 0 gv → Q (some (.int (nI (c2 - c)))) (xB h b K')) : ac g l mX11_define [.ref b] (xB h b K) Q := by
  refine ac_of (by decide) (Nat.le_of_ble_eq_true rfl) ?_
  obtain ⟨hS, hB, ⟨N, S, hX, hS67, hRK⟩, ⟨h5, h4⟩, h6, hRB, h14, h18, h19⟩ := hI
  obtain ⟨pre1, pre2⟩ := RF_pre rf
  have hc := hD.1
  have hc2 := hD2.1
  subst hto
  refine sX11_define_0 rfl ?_
  refine tX11_define_1 hS ?_
  rw [h5]
  refine sX11_define_4 ?_
  refine sX11_define_5 rfl ?_
  refine nX11_define_6 ?_
  refine tX11_define_7 hS ?_
  refine sX11_define_10 rfl ?_
  refine sX11_define_11 rfl ?_
  refine tX11_define_12 hS ?_
  rw [xup2_n (by decide), h6]
  refine tX11_define_15 hS ?_
  refine sX11_define_18 rfl ?_
  refine sX11_define_19 rfl ?_
  refine nX11_define_20 ?_
  refine sX11_define_21 rfl ?_
  refine tX11_define_22 hS ?_
  rw [xup2_n (by decide), xup2_n (by decide), h6]
  refine tX11_define_25 hS (Nat.le_of_ble_eq_true rfl) ?_
  refine c_count11 (so := fso D) hS hc (fun k hk => ?_) ?_
  · rw [xup2_r (by decide), xup2_r (by decide)]; exact ⟨(hRB k hk).1, (hD.2.1 k hk).1⟩
  refine tX11_define_28 hS ?_
  refine sX11_define_31 rfl ?_
  refine sX11_define_32 rfl ?_
  refine tX11_define_33 hS ?_
  rw [xup2_n (by decide), xup2_n (by decide), xup2_n (by decide), h14]
  refine tX11_define_36 hS ?_
  refine sX11_define_39 rfl ?_
  refine nX11_define_40 ?_
  refine tX11_define_41 hS ?_
  refine nX11_define_44 ?_
  refine sX11_define_45 ?_
  generalize hK0 : xup2 (xup2 (xup2 (xup2 (xup2 K 0 5 (nI 0)) 0 42 (nI c)) 0 43 (nI (nb (fso D) c))) 0 44 (nI (eO (ftt D) c))) 0 45 (nI 0) = K0
  have r0 : ∀ r, r ≠ 0 → K0 r = K r := fun r hr => by rw [← hK0, xup2_r hr, xup2_r hr, xup2_r hr, xup2_r hr, xup2_r hr]
  have z0 : ∀ j, j ≠ 5 → j < 42 → K0 0 j = K 0 j := fun j a1 a2 => by rw [← hK0, xup2_n (by omega), xup2_n (by omega), xup2_n (by omega), xup2_n (by omega), xup2_n a1]
  have e5 : K0 0 5 = nI 0 := by rw [← hK0, xup2_n (by decide), xup2_n (by decide), xup2_n (by decide), xup2_n (by decide), xup2_s]
  have e42 : K0 0 42 = nI c := by rw [← hK0, xup2_n (by decide), xup2_n (by decide), xup2_n (by decide), xup2_s]
  have e43 : K0 0 43 = nI (nb (fso D) c) := by rw [← hK0, xup2_n (by decide), xup2_n (by decide), xup2_s]
  have e44 : K0 0 44 = nI (eO (ftt D) c) := by rw [← hK0, xup2_n (by decide), xup2_s]
  have e45 : K0 0 45 = nI 0 := by rw [← hK0, xup2_s]
  have x0 : RX K0 N S := RX_row (r0 1 (by decide)) (r0 2 (by decide)) (r0 3 (by decide)) hX
  have rb0 : RB K0 c D := RB_x (fun r a1 _ => r0 r (by omega)) hRB
  -- all lines are read
  have fin : ∀ (K2 : Nat → Nat → Int32) (lv0 : List (Nat × Value)), fMM K0 K2 → RX K2 N S → RB K2 c2 D2 → K2 0 42 = nI c2 → K2 0 44 = nI (eO (ftt D2) c2) → (res = none → K2 0 45 = nI 0) → (∀ f p, res = some (f, p) → f ≠ 0 ∧ f < 100 ∧ K2 0 45 = nI f ∧ K2 0 46 = nI p) → (∀ z ∈ ([(0, .ref b)] : List (Nat × Value)), z ∈ lv0) → aw g l mX11_define 128 lv0 [] (xB h b K2) Q := by
    intro K2 lv0 fm x2 rb2 v42 v44 v45 vf hlv
    refine aw_lv hlv ?_
    have m0 : ∀ j, j < 20 → j ≠ 5 → K2 0 j = K 0 j := fun j a1 a2 => by rw [fm.2 j a1, z0 j a2 (by omega)]
    have b2 : K2 0 0 = nI B := by rw [m0 0 (by decide) (by decide)]; exact hB
    have rbc : RB K2 c D := RB_take pre1 (fun k hk => (pre2 k hk).symm) rb2
    have m6 : K2 0 6 = nI c := by rw [m0 6 (by decide) (by decide)]; exact h6
    have m14 : K2 0 14 = nI (eO (ftt D) c) := by rw [m0 14 (by decide) (by decide)]; exact h14
    have m19 : K2 0 19 = nI gv := by rw [m0 19 (by decide) (by decide)]; exact h19
    have m5 : K2 0 5 = nI 0 := by rw [fm.2 5 (by decide)]; exact e5
    have m12 : K2 12 = K 12 := by rw [fm.1 12 (by omega), r0 12 (by decide)]
    have m13 : K2 13 = K 13 := by rw [fm.1 13 (by omega), r0 13 (by decide)]
    have f18 : ∀ (K3 : Nat → Nat → Int32) (i : Nat) (v : Int32) (r : Nat), r ≠ 0 → xup2 K3 0 i v r = K3 r := fun K3 i v r hr => xup2_r hr
    cases hres : res with
    | some q =>
      obtain ⟨f, p⟩ := q
      obtain ⟨f0, f1, v1, v2⟩ := vf f p hres
      refine sX11_define_128 rfl ?_
      refine tX11_define_129 hS ?_
      rw [v1]
      refine nX11_define_132 (by omega) (fun y => absurd y f0) (fun _ => ?_)
      refine sX11_define_135 rfl ?_
      refine sX11_define_136 rfl ?_
      refine tX11_define_137 hS ?_
      rw [v1]
      refine sX11_define_140 rfl ?_
      refine tX11_define_141 hS ?_
      rw [v2]
      refine tX11_define_144 hS (Nat.le_of_ble_eq_true rfl) ?_
      refine c_failed hS ?_
      refine sX11_define_147 (kA f p hres _ ⟨hS, ?_, ⟨N, S, RX_row0 x2, hS67, fun k hk => ?_⟩, ⟨?_, fun i hi => by omega⟩, ?_, RB_x (fun r a1 _ => xup2_r (by omega)) rbc, ?_, xup2_s, ?_⟩)
      · rw [xup2_n (by decide)]; exact b2
      · rw [xup2_r (by decide), xup2_r (by decide), m12, m13]; exact hRK k hk
      · rw [xup2_n (by decide)]; exact m5
      · rw [xup2_n (by decide)]; exact m6
      · rw [xup2_n (by decide)]; exact m14
      · rw [xup2_n (by decide)]; exact m19
    | none =>
      refine sX11_define_128 rfl ?_
      refine tX11_define_129 hS ?_
      rw [v45 hres]
      refine nX11_define_132 (by decide) (fun _ => ?_) (fun y => absurd rfl y)
      refine sX11_define_148 rfl ?_
      refine sX11_define_149 rfl ?_
      refine tX11_define_150 hS ?_
      rw [v42]
      refine tX11_define_153 hS (Nat.le_of_ble_eq_true rfl) ?_
      refine c_rsettle (mg := dM c2 D2) (bv := bvO (fbn D2)) (fun _ => rfl) rfl hS x2 (RB_D hD2 rb2) b2 hB0 hB2 (fun K3 N3 S3 E3 fg x3 all s65 s67 => ?_) (fun K3 N3 S3 j fg x3 hj nf af s65 s67 => ?_)
      · have g0 : ∀ j, j < 20 ∨ 32 < j → K3 0 j = K2 0 j := fg.2
        refine sX11_define_156 ?_
        refine sX11_define_157 rfl ?_
        refine sX11_define_158 (fun _ => ?_) (fun y => absurd (by decide) y)
        refine sX11_define_178 rfl ?_
        refine tX11_define_179 hS ?_
        rw [g0 42 (by omega), v42]
        refine sX11_define_182 rfl ?_
        refine tX11_define_183 hS ?_
        rw [g0 6 (by omega), m6]
        refine nX11_define_186 (by omega) ?_
        refine sX11_define_187 ?_
        refine sX11_define_189 rfl ?_
        refine sX11_define_190 rfl ?_
        refine tX11_define_191 hS ?_
        rw [g0 42 (by omega), v42]
        refine tX11_define_194 hS ?_
        refine sX11_define_197 rfl ?_
        refine sX11_define_198 rfl ?_
        refine tX11_define_199 hS ?_
        rw [xup2_n (by decide), g0 44 (by omega), v44]
        refine tX11_define_202 hS ?_
        refine sX11_define_205 rfl ?_
        refine nX11_define_206 ?_
        refine tX11_define_207 hS ?_
        refine sX11_define_210 rfl ?_
        have kn' : KN B c2 D2 E3 := fun k hk => by
          obtain ⟨r, e, a1, a2, a3, a4, a5, a6⟩ := all k hk
          exact ⟨r, e, a3, a6⟩
        refine sX11_define_212 (kC hres _ E3 kn' ⟨hS, ?_, ⟨N3, S3, RX_row0 (RX_row0 (RX_row0 x3)), by rw [s67]; exact hS67, fun k hk => ?_⟩, ⟨?_, fun i hi => by omega⟩, ?_, RB_x (fun r a1 _ => by rw [xup2_r (by omega), xup2_r (by omega), xup2_r (by omega)]) (RB_g fg rb2), ?_, xup2_s, ?_⟩)
        · rw [xup2_n (by decide), xup2_n (by decide), xup2_n (by decide), g0 0 (by omega)]; exact b2
        · obtain ⟨r, e, a1, a2, a3, a4, a5, a6⟩ := all k hk
          refine ⟨r, e, ?_, a2, ?_, a5⟩
          · rw [xup2_r (by decide), xup2_r (by decide), xup2_r (by decide)]; exact a1
          · rw [xup2_r (by decide), xup2_r (by decide), xup2_r (by decide)]; exact a4
        · rw [xup2_n (by decide), xup2_n (by decide), xup2_n (by decide), g0 5 (by omega)]; exact m5
        · rw [xup2_n (by decide), xup2_n (by decide), xup2_s]
        · rw [xup2_n (by decide), xup2_s]
        · rw [xup2_n (by decide), xup2_n (by decide), xup2_n (by decide), g0 19 (by omega)]; exact m19
      · have g0 : ∀ j, j < 20 ∨ 32 < j → K3 0 j = K2 0 j := fg.2
        refine sX11_define_156 ?_
        refine sX11_define_157 rfl ?_
        refine nX11_define_158 (by omega) ?_
        refine sX11_define_161 rfl ?_
        refine sX11_define_162 rfl ?_
        refine tX11_define_163 hS ?_
        rw [g0 6 (by omega), m6]
        refine tX11_define_166 hS (Nat.le_of_ble_eq_true rfl) ?_
        refine c_rset hS x3 (by rw [g0 0 (by omega)]; exact b2) hB0 hB2 hD (RB_g fg rbc) (KN_fn hK) (fun K4 N4 S4 E4 fg4 x4 t67 kn4 rk4 => ?_)
        have g4 : ∀ j, j < 20 ∨ 32 < j → K4 0 j = K2 0 j := fun j hj => by rw [fg4.2 j hj, g0 j hj]
        refine sX11_define_169 ?_
        refine sX11_define_171 rfl ?_
        refine nX11_define_172 ?_
        refine sX11_define_173 rfl ?_
        refine tX11_define_174 hS (Nat.le_of_ble_eq_true rfl) ?_
        refine c_failed hS ?_
        refine sX11_define_177 (kB hres j hj nf af _ (RI_E kn4 hK ⟨hS, ?_, ⟨N4, S4, RX_row0 x4, by rw [t67, s67]; exact hS67, fun k hk => ?_⟩, ⟨?_, fun i hi => by omega⟩, ?_, RB_x (fun r a1 _ => xup2_r (by omega)) (RB_g fg4 (RB_g fg rbc)), ?_, xup2_s, ?_⟩))
        · rw [xup2_n (by decide), g4 0 (by omega)]; exact b2
        · rw [xup2_r (by decide), xup2_r (by decide)]; exact rk4 k hk
        · rw [xup2_n (by decide), g4 5 (by omega)]; exact m5
        · rw [xup2_n (by decide), g4 6 (by omega)]; exact m6
        · rw [xup2_n (by decide), g4 14 (by omega)]; exact m14
        · rw [xup2_n (by decide), g4 19 (by omega)]; exact m19
  -- the loop over the lines
  have loop : ∀ (nL s c1 : Nat) (D1 : Nat → Df) (K1 : Nat → Nat → Int32) (lv0 : List (Nat × Value)), RF TT fr (fr + ts) nL s c1 D1 res c2 D2 → fr ≤ s → s ≤ fr + ts + 1 → DB c1 D1 → eO (fte D1) c1 ≤ s → fMM K0 K1 → RX K1 N S → RB K1 c1 D1 → K1 0 42 = nI c1 → K1 0 43 = nI (nb (fso D1) c1) → K1 0 44 = nI (eO (ftt D1) c1) → K1 0 45 = nI 0 → (∀ z ∈ ([(0, .ref b), (1, .int (nI ts)), (2, .int (nI (s - fr)))] : List (Nat × Value)), z ∈ lv0) → aw g l mX11_define 46 lv0 [] (xB h b K1) Q := by
    intro nL
    induction nL with
    | zero =>
      intro s c1 D1 K1 lv0 rf hfs hs1 d1 te1 fm x1 rb1 v42 v43 v44 v45 hlv
      refine aw_lv hlv ?_
      obtain ⟨r1, r2, r3, r4⟩ := rf
      rw [← r3] at v42 v44 rb1
      rw [← r4] at rb1 v44
      refine sX11_define_46 rfl ?_
      refine sX11_define_47 rfl ?_
      exact nX11_define_48 (by omega) (by omega) (fun _ => fin K1 _ fm x1 rb1 v42 v44 (fun _ => v45) (fun f p y => by rw [r2] at y; cases y) (fun z hz => by simp only [List.mem_cons, List.not_mem_nil, or_false] at hz; rcases hz with rfl <;> exact xlk_mem rfl)) (fun y => absurd y (by omega))
    | succ nL ih =>
      intro s c1 D1 K1 lv0 rf hfs hs1 d1 te1 fm x1 rb1 v42 v43 v44 v45 hlv
      refine aw_lv hlv ?_
      have hst := rf.1
      by_cases hse : s = fr + ts
      · rw [hse] at rf
        obtain ⟨r2, r3, r4⟩ := RF_end rf
        rw [← r3] at v42 v44 rb1
        rw [← r4] at rb1 v44
        refine sX11_define_46 rfl ?_
        refine sX11_define_47 rfl ?_
        exact nX11_define_48 (by omega) (by omega) (fun _ => fin K1 _ fm x1 rb1 v42 v44 (fun _ => v45) (fun f p y => by rw [r2] at y; cases y) (fun z hz => by simp only [List.mem_cons, List.not_mem_nil, or_false] at hz; rcases hz with rfl <;> exact xlk_mem rfl)) (fun y => absurd y (by omega))
      · obtain ⟨u1, u2⟩ := lnM_le (T := TT) hst
        have u3 := lnM_ge TT s (fr + ts)
        have u4 := utl_ge TT s (fr + ts) 10
        have tape : ∀ p, p < ts → K1 4 p = nI (TT (p + fr)) := fun p hp => by rw [fm.1 4 (by omega), r0 4 (by decide), hTT p hp]; exact h4 p hp
        have hTb : ∀ p, p < ts → TT (p + fr) < 2 ^ 31 := fun p hp => Nat.lt_trans (hT _ (by omega)) (by decide)
        -- the line itself
        have line : ∀ (lv1 : List (Nat × Value)), (∀ z ∈ ([(0, .ref b), (1, .int (nI ts)), (2, .int (nI (s - fr))), (3, .int (nI (utl TT s (fr + ts) 10 - fr))), (4, .int (nI (lnM TT s (fr + ts) - fr)))] : List (Nat × Value)), z ∈ lv1) → aw g l mX11_define 109 lv1 [] (xB h b K1) Q := by
          intro lv1 hlv1
          refine aw_lv hlv1 ?_
          refine sX11_define_109 rfl ?_
          refine sX11_define_110 ?_
          refine tX11_define_111 hS (by first | decide | assumption) ?_
          refine sX11_define_114 rfl ?_
          refine sX11_define_115 rfl ?_
          refine sX11_define_116 rfl ?_
          refine tX11_define_118 hS (Nat.le_of_ble_eq_true rfl) ?_
          obtain ⟨K3, hK3⟩ : ∃ K3, K3 = xup2 K1 0 20 0 := ⟨_, rfl⟩
          rw [← hK3]
          have r3 : ∀ r, r ≠ 0 → K3 r = K1 r := fun r hr => by rw [hK3, xup2_r hr]
          have z3 : ∀ j, j ≠ 20 → K3 0 j = K1 0 j := fun j hj => by rw [hK3, xup2_n hj]
          have fm3 : fMM K0 K3 := fMM_t fm ⟨fun r hr => r3 r (by omega), fun j hj => z3 j (by omega)⟩
          have x3 : RX K3 N S := by rw [hK3]; exact RX_row0 x1
          have rb3 : RB K3 c1 D1 := RB_x (fun r a1 _ => r3 r (by omega)) rb1
          have hCk : tOk (cT TT (lnM TT s (fr + ts))) (lnM TT s (fr + ts)) := cT_ok hT (by omega)
          have t3 : ∀ p, p < lnM TT s (fr + ts) - fr → K3 4 p = nI (cT TT (lnM TT s (fr + ts)) (p + fr)) := fun p hp => by rw [r3 4 (by decide), cT_in (by omega)]; exact tape p (by omega)
          have b3 : K3 0 0 = nI B := by rw [z3 0 (by decide), fm.2 0 (by decide), z0 0 (by decide) (by decide)]; exact hB
          have e203 : K3 0 20 = 0 := by rw [hK3, xup2_s]
          rcases rf.2 with ⟨f, p, lb, q1, q2, q3⟩ | ⟨c3, D3, lo, rf3⟩
          · refine c_line (res := some (f, p)) (c1 := c1) (D1 := D1) hS x3 b3 hB0 hB2 d1 rb3 hCk (by omega) (show lnM TT s (fr + ts) - fr + fr = lnM TT s (fr + ts) by omega) (by omega) e203 t3 hfs u3 te1 (by rw [z3 42 (by decide)]; exact v42) (by rw [z3 43 (by decide)]; exact v43) (by rw [z3 44 (by decide)]; exact v44) (by rw [z3 45 (by decide)]; exact v45) (Or.inl ⟨f, p, lb, rfl, rfl, rfl⟩) (fun K4 fn4 x4 rb4 w42 w43 w44 w45 wf => ?_)
            rw [← q2] at w42 w44 rb4
            rw [← q3] at rb4 w44
            obtain ⟨f0, f1, y1, y2⟩ := wf f p rfl
            have fin4 : ∀ lv2 : List (Nat × Value), (∀ z ∈ ([(0, .ref b)] : List (Nat × Value)), z ∈ lv2) → aw g l mX11_define 128 lv2 [] (xB h b K4) Q := fun lv2 hlv2 => fin K4 lv2 (fMM_t fm3 (fMM_N fn4)) x4 rb4 w42 w44 (fun y => by rw [q1] at y; cases y) (fun f' p' y => by rw [q1] at y; exact wf f' p' y) hlv2
            refine sX11_define_121 rfl ?_
            refine nX11_define_122 ?_
            refine nX11_define_123 ?_
            refine sX11_define_124 ?_
            refine sX11_define_125 ?_
            refine sX11_define_46 rfl ?_
            refine sX11_define_47 rfl ?_
            refine nX11_define_48 (by omega) (by omega) (fun _ => fin4 _ (fun z hz => by simp only [List.mem_cons, List.not_mem_nil, or_false] at hz; rcases hz with rfl <;> exact xlk_mem rfl)) (fun _ => ?_)
            refine sX11_define_51 rfl ?_
            refine tX11_define_52 hS ?_
            rw [y1]
            exact nX11_define_55 (by omega) (fun _ => fin4 _ (fun z hz => by simp only [List.mem_cons, List.not_mem_nil, or_false] at hz; rcases hz with rfl <;> exact xlk_mem rfl)) (fun y => absurd y f0)
          · obtain ⟨d3, te3⟩ := LO_ok hCk (by omega) d1 (Nat.le_trans te1 (tkF_ge _ _ _)) (tkF_le u3) lo
            refine c_line (res := none) (c1 := c3) (D1 := D3) hS x3 b3 hB0 hB2 d1 rb3 hCk (by omega) (show lnM TT s (fr + ts) - fr + fr = lnM TT s (fr + ts) by omega) (by omega) e203 t3 hfs u3 te1 (by rw [z3 42 (by decide)]; exact v42) (by rw [z3 43 (by decide)]; exact v43) (by rw [z3 44 (by decide)]; exact v44) (by rw [z3 45 (by decide)]; exact v45) (Or.inr ⟨lo, rfl⟩) (fun K4 fn4 x4 rb4 w42 w43 w44 w45 wf => ?_)
            refine sX11_define_121 rfl ?_
            refine nX11_define_122 ?_
            refine nX11_define_123 ?_
            refine sX11_define_124 ?_
            refine sX11_define_125 ?_
            rw [show utl TT s (fr + ts) 10 - fr + 1 = utl TT s (fr + ts) 10 + 1 - fr by omega]
            exact ih (utl TT s (fr + ts) 10 + 1) c3 D3 K4 _ rf3 (by omega) (by omega) d3 (by omega) (fMM_t fm3 (fMM_N fn4)) x4 rb4 w42 w43 w44 (w45 rfl) (fun z hz => by simp only [List.mem_cons, List.not_mem_nil, or_false] at hz; rcases hz with rfl | rfl | rfl <;> exact xlk_mem rfl)
        -- where its text ends
        have hash : ∀ (lv1 : List (Nat × Value)), (∀ z ∈ ([(0, .ref b), (1, .int (nI ts)), (2, .int (nI (s - fr))), (3, .int (nI (utl TT s (fr + ts) 10 - fr)))] : List (Nat × Value)), z ∈ lv1) → aw g l mX11_define 82 lv1 [] (xB h b K1) Q := by
          intro lv1 hlv1
          refine aw_lv hlv1 ?_
          refine sX11_define_82 rfl ?_
          refine sX11_define_83 ?_
          suffices Hl : ∀ f p (lv2 : List (Nat × Value)), utl TT s (fr + ts) 10 - (p + fr) ≤ f → s ≤ p + fr → p + fr ≤ utl TT s (fr + ts) 10 → rnd (fun y => !decide (y = 35)) TT (utl TT s (fr + ts) 10) (p + fr) = lnM TT s (fr + ts) → (∀ z ∈ ([(0, .ref b), (1, .int (nI ts)), (2, .int (nI (s - fr))), (3, .int (nI (utl TT s (fr + ts) 10 - fr))), (4, .int (nI p))] : List (Nat × Value)), z ∈ lv2) → aw g l mX11_define 85 lv2 [] (xB h b K1) Q from Hl _ (s - fr) _ (Nat.le_refl _) (by omega) (by omega) (by rw [show s - fr + fr = s by omega]; rfl) (fun z hz => by simp only [List.mem_cons, List.not_mem_nil, or_false] at hz; rcases hz with rfl | rfl | rfl | rfl | rfl <;> exact xlk_mem rfl)
          intro f
          induction f with
          | zero =>
            intro p lv2 hf h1 h2 hr hlv2
            refine aw_lv hlv2 ?_
            rw [rnd_stop (Or.inr (by omega))] at hr
            refine sX11_define_85 rfl ?_
            refine sX11_define_87 rfl ?_
            refine nX11_define_88 (by omega) (by omega) (fun _ => ?_) (fun y => absurd y (by omega))
            rw [show p = lnM TT s (fr + ts) - fr by omega]
            exact line _ (fun z hz => by simp only [List.mem_cons, List.not_mem_nil, or_false] at hz; rcases hz with rfl | rfl | rfl | rfl | rfl <;> exact xlk_mem rfl)
          | succ f ihf =>
            intro p lv2 hf h1 h2 hr hlv2
            refine aw_lv hlv2 ?_
            refine sX11_define_85 rfl ?_
            refine sX11_define_87 rfl ?_
            refine nX11_define_88 (by omega) (by omega) (fun y => ?_) (fun y => ?_)
            · rw [rnd_stop (Or.inr (by omega))] at hr
              rw [show p = lnM TT s (fr + ts) - fr by omega]
              exact line _ (fun z hz => by simp only [List.mem_cons, List.not_mem_nil, or_false] at hz; rcases hz with rfl | rfl | rfl | rfl | rfl <;> exact xlk_mem rfl)
            · refine sX11_define_91 rfl ?_
              refine tX11_define_92 hS ?_
              refine sX11_define_95 rfl ?_
              refine tX11_define_97 hS (by decide) (by decide) rfl (by simp only [rl]; omega) ?_
              rw [tape p (by omega)]
              refine nX11_define_98 ?_
              refine nX11_define_100 (hTb p (by omega)) (by decide) (fun y2 => ?_) (fun y2 => ?_)
              · rw [rnd_stop (Or.inl (by rw [y2]; simp))] at hr
                rw [show p = lnM TT s (fr + ts) - fr by omega]
                exact line _ (fun z hz => by simp only [List.mem_cons, List.not_mem_nil, or_false] at hz; rcases hz with rfl | rfl | rfl | rfl | rfl <;> exact xlk_mem rfl)
              · refine nX11_define_103 rfl ?_
                refine sX11_define_106 ?_
                refine ihf (p + 1) _ (by omega) (by omega) (by omega) ?_ (fun z hz => by simp only [List.mem_cons, List.not_mem_nil, or_false] at hz; rcases hz with rfl | rfl | rfl | rfl | rfl <;> exact xlk_mem rfl)
                rw [show p + 1 + fr = p + fr + 1 by omega, ← rnd_step (q := p + fr) (by omega) (by simpa using y2)]
                exact hr
        refine sX11_define_46 rfl ?_
        refine sX11_define_47 rfl ?_
        refine nX11_define_48 (by omega) (by omega) (fun y => absurd y (by omega)) (fun _ => ?_)
        refine sX11_define_51 rfl ?_
        refine tX11_define_52 hS ?_
        rw [v45]
        refine nX11_define_55 (by decide) (fun y => absurd rfl y) (fun _ => ?_)
        refine sX11_define_58 rfl ?_
        refine sX11_define_59 ?_
        suffices Hl : ∀ f p (lv2 : List (Nat × Value)), fr + ts - (p + fr) ≤ f → s ≤ p + fr → p + fr ≤ fr + ts → rnd (fun y => !decide (y = 10)) TT (fr + ts) (p + fr) = utl TT s (fr + ts) 10 → (∀ z ∈ ([(0, .ref b), (1, .int (nI ts)), (2, .int (nI (s - fr))), (3, .int (nI p))] : List (Nat × Value)), z ∈ lv2) → aw g l mX11_define 60 lv2 [] (xB h b K1) Q from Hl _ (s - fr) _ (Nat.le_refl _) (by omega) (by omega) (by rw [show s - fr + fr = s by omega]; rfl) (fun z hz => by simp only [List.mem_cons, List.not_mem_nil, or_false] at hz; rcases hz with rfl | rfl | rfl | rfl <;> exact xlk_mem rfl)
        intro f
        induction f with
        | zero =>
          intro p lv2 hf h1 h2 hr hlv2
          refine aw_lv hlv2 ?_
          rw [rnd_stop (Or.inr (by omega))] at hr
          refine sX11_define_60 rfl ?_
          refine sX11_define_61 rfl ?_
          refine nX11_define_62 (by omega) (by omega) (fun _ => ?_) (fun y => absurd y (by omega))
          rw [show p = utl TT s (fr + ts) 10 - fr by omega]
          exact hash _ (fun z hz => by simp only [List.mem_cons, List.not_mem_nil, or_false] at hz; rcases hz with rfl | rfl | rfl | rfl <;> exact xlk_mem rfl)
        | succ f ihf =>
          intro p lv2 hf h1 h2 hr hlv2
          refine aw_lv hlv2 ?_
          refine sX11_define_60 rfl ?_
          refine sX11_define_61 rfl ?_
          refine nX11_define_62 (by omega) (by omega) (fun y => ?_) (fun y => ?_)
          · rw [rnd_stop (Or.inr (by omega))] at hr
            rw [show p = utl TT s (fr + ts) 10 - fr by omega]
            exact hash _ (fun z hz => by simp only [List.mem_cons, List.not_mem_nil, or_false] at hz; rcases hz with rfl | rfl | rfl | rfl <;> exact xlk_mem rfl)
          · refine sX11_define_65 rfl ?_
            refine tX11_define_66 hS ?_
            refine sX11_define_69 rfl ?_
            refine tX11_define_70 hS (by decide) (by decide) rfl (by simp only [rl]; omega) ?_
            rw [tape p (by omega)]
            refine nX11_define_71 ?_
            refine nX11_define_73 (hTb p (by omega)) (by decide) (fun y2 => ?_) (fun y2 => ?_)
            · rw [rnd_stop (Or.inl (by rw [y2]; simp))] at hr
              rw [show p = utl TT s (fr + ts) 10 - fr by omega]
              exact hash _ (fun z hz => by simp only [List.mem_cons, List.not_mem_nil, or_false] at hz; rcases hz with rfl | rfl | rfl | rfl <;> exact xlk_mem rfl)
            · refine nX11_define_76 rfl ?_
              refine sX11_define_79 ?_
              refine ihf (p + 1) _ (by omega) (by omega) (by omega) ?_ (fun z hz => by simp only [List.mem_cons, List.not_mem_nil, or_false] at hz; rcases hz with rfl | rfl | rfl | rfl <;> exact xlk_mem rfl)
              rw [show p + 1 + fr = p + fr + 1 by omega, ← rnd_step (q := p + fr) (by omega) (by simpa using y2)]
              exact hr
  have hs0 : nI 0 = nI (fr - fr) := by rw [Nat.sub_self]
  refine loop nL fr c D K0 _ rf (Nat.le_refl _) (by omega) hD hfr ⟨fun _ _ => rfl, fun _ _ => rfl⟩ x0 rb0 e42 e43 e44 e45 ?_
  rw [Nat.sub_self]
  exact (fun z hz => by simp only [List.mem_cons, List.not_mem_nil, or_false] at hz; rcases hz with rfl | rfl | rfl <;> exact xlk_mem rfl)
end RDef
