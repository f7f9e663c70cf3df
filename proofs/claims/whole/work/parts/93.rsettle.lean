/-! ===== the reference's settle ===== -/
def nz (M : Nat → Nat) : Nat → Nat
  | 0 => 0
  | c + 1 => nz M c + (if M c = 0 then 1 else 0)
theorem nz_same {M : Nat → Nat} {k r : Nat} : ∀ {c}, c ≤ k → nz (va_up M k r) c = nz M c
  | 0, _ => rfl
  | c + 1, h => by
    show nz (va_up M k r) c + (if va_up M k r c = 0 then 1 else 0) = nz M c + _
    rw [nz_same (by omega), vup_n (by omega)]
theorem nz_up {M : Nat → Nat} {k r : Nat} (h : M k = 0) (hr : r ≠ 0) : ∀ {c}, k < c → nz (va_up M k r) c + 1 = nz M c
  | 0, hk => by omega
  | c + 1, hk => by
    show nz (va_up M k r) c + (if va_up M k r c = 0 then 1 else 0) + 1 = nz M c + (if M c = 0 then 1 else 0)
    rcases Nat.eq_or_lt_of_le (Nat.le_of_lt_succ hk) with e | e
    · subst e
      rw [vup_s, nz_same (Nat.le_refl _), if_pos h, if_neg hr]
    · rw [vup_n (by omega)]
      have := nz_up h hr e
      omega
theorem nz_len {c : Nat} : ∀ {ks : List Nat} {M : Nat → Nat}, ks.Nodup → (∀ k ∈ ks, k < c ∧ M k = 0) → ks.length ≤ nz M c
  | [], _, _, _ => Nat.zero_le _
  | k :: ks, M, hn, h => by
    obtain ⟨h1, h2⟩ := h k List.mem_cons_self
    obtain ⟨n1, n2⟩ := List.nodup_cons.mp hn
    have := nz_up h2 (show (1 : Nat) ≠ 0 by decide) h1
    have := nz_len (c := c) (M := va_up M k 1) n2 (fun i hi => ⟨(h i (List.mem_cons_of_mem _ hi)).1, by rw [vup_n (show i ≠ k from fun e => n1 (e ▸ hi))]; exact (h i (List.mem_cons_of_mem _ hi)).2⟩)
    show ks.length + 1 ≤ nz M c
    omega
def cJ (K : Nat → Nat → Int32) : List Nat → Prop
  | [] => True
  | k :: ks => K 14 ks.length = nI k ∧ cJ K ks
theorem cJ_c {K K' : Nat → Nat → Int32} : ∀ {ks : List Nat}, (∀ i, i < ks.length → K' 14 i = K 14 i) → cJ K ks → cJ K' ks
  | [], _, _ => trivial
  | k :: ks, h, ⟨h1, h2⟩ => ⟨(h ks.length (Nat.lt_succ_self _)).trans h1, cJ_c (fun i hi => h i (Nat.lt_succ_of_lt hi)) h2⟩
theorem cJ_at {K : Nat → Nat → Int32} : ∀ {ks : List Nat} {i : Nat}, cJ K ks → i < ks.length → ∃ k, K 14 i = nI k ∧ k ∈ ks
  | [], i, _, hi => by cases hi
  | k :: ks, i, ⟨h1, h2⟩, hi => by
    rcases Nat.eq_or_lt_of_le (Nat.le_of_lt_succ hi) with e | e
    · exact ⟨k, e ▸ h1, List.mem_cons_self⟩
    · obtain ⟨j, a, d⟩ := cJ_at h2 e
      exact ⟨j, a, List.mem_cons_of_mem _ d⟩
theorem cJ_of {K : Nat → Nat → Int32} : ∀ {ks : List Nat} {k : Nat}, cJ K ks → k ∈ ks → ∃ i, i < ks.length ∧ K 14 i = nI k
  | [], k, _, hi => by cases hi
  | j :: ks, k, ⟨h1, h2⟩, hi => by
    rcases List.mem_cons.mp hi with e | e
    · exact ⟨ks.length, Nat.lt_succ_self _, e ▸ h1⟩
    · obtain ⟨i, a, d⟩ := cJ_of h2 e
      exact ⟨i, Nat.lt_succ_of_lt a, d⟩
theorem nds_all {B c : Nat} {so : Nat → Nat} {bv : Nat → Vl} {Lk : Nat → List St} {Ck : Nat → Nat → Nat} {mk : Nat → Nat} {mg : Nat → Nat → Nat → Option Nat × Option Nat} (hm : ∀ k, mgOk c (mg k)) : ∀ {ks : List Nat} {j : Nat}, nds B c so bv Lk Ck mk mg (j :: ks) → ¬ fin B c so bv Lk Ck mk mg j → ∀ i ∈ ks, ¬ fin B c so bv Lk Ck mk mg i
  | [], _, _, _, i, hi => by cases hi
  | k :: ks, j, ⟨⟨h1, E, hT, h2⟩, h3⟩, hj, i, hi => by
    have hk := Tr_nofin hm hT h1 h2 hj
    rcases List.mem_cons.mp hi with e | e
    · rw [e]; exact hk
    · exact nds_all hm h3 hk i e
/-- the reference's book -/
def RD (K : Nat → Nat → Int32) (c : Nat) (so ln : Nat → Nat) (nm : Nat → Nat → Nat) (bn tf tt dd : Nat → Nat) (Lk : Nat → List St) (Ck : Nat → Nat → Nat) (mk ek : Nat → Nat) : Prop := c ≤ 100 ∧ RM K so ln nm c ∧ (∀ k k', k < c → k' < c → so k = 2 → so k' = 2 → ln k = ln k' → (∀ i, i < ln k → nm k i = nm k' i) → k = k') ∧ ∀ k, k < c → K 6 k = nI (bn k) ∧ (so k = 0 → bn k < 8) ∧ (so k ≠ 0 → K 9 k = nI (tf k) ∧ K 10 k = nI (tt k) ∧ tf k ≤ tt k ∧ tt k ≤ 90000 ∧ tt k + dd k = mk k ∧ tOk (Ck k) (mk k) ∧ (∀ p, tf k ≤ p → p < tt k → K 11 p = nI (Ck k (p + dd k))) ∧ PM0 (Ck k) (mk k) (tkF (Ck k) (mk k) (tf k + dd k)) (Lk k) true (ek k))
/-- what settle leaves as it was -/
def fG (K K' : Nat → Nat → Int32) : Prop := (∀ r, r ≠ 0 → r ≠ 1 → r ≠ 2 → r ≠ 3 → r < 12 ∨ 23 < r → K' r = K r) ∧ ∀ j, j < 20 ∨ 32 < j → K' 0 j = K 0 j
theorem fG_t {K K1 K2 : Nat → Nat → Int32} (h : fG K K1) (h' : fG K1 K2) : fG K K2 := ⟨fun r a b c d e => (h'.1 r a b c d e).trans (h.1 r a b c d e), fun j hj => (h'.2 j hj).trans (h.2 j hj)⟩
theorem fG_E {K K' : Nat → Nat → Int32} (h : fE K K') : fG K K' := ⟨fun r a b c d e => h.1 r a b c d (by omega), fun j hj => h.2 j (by omega)⟩
theorem fG_r (K : Nat → Nat → Int32) : fG K K := ⟨fun _ _ _ _ _ _ => rfl, fun _ _ => rfl⟩
theorem fG_u {K : Nat → Nat → Int32} {r i : Nat} {v : Int32} (h : r = 1 ∨ r = 2 ∨ r = 3 ∨ 12 ≤ r ∧ r ≤ 23) : fG K (xup2 K r i v) := ⟨fun q a b c d e => xup2_r (by omega), fun j _ => by rw [xup2_r (by omega)]⟩
theorem fG_0 {K : Nat → Nat → Int32} {i : Nat} {v : Int32} (h : 20 ≤ i ∧ i ≤ 32) : fG K (xup2 K 0 i v) := ⟨fun q a _ _ _ _ => xup2_r a, fun j hj => xup2_n (by omega)⟩
theorem fG_3 {K K' : Nat → Nat → Int32} (h : xo3 K K') : fG K K' := ⟨fun r _ a b c _ => h r a b c, fun j _ => by rw [h 0 (by decide) (by decide) (by decide)]⟩
theorem RD_c {K K' : Nat → Nat → Int32} {c : Nat} {so ln : Nat → Nat} {nm : Nat → Nat → Nat} {bn tf tt dd : Nat → Nat} {Lk : Nat → List St} {Ck : Nat → Nat → Nat} {mk ek : Nat → Nat} (o : fG K K') (h : RD K c so ln nm bn tf tt dd Lk Ck mk ek) : RD K' c so ln nm bn tf tt dd Lk Ck mk ek := by
  have rr : ∀ r, 4 ≤ r → r < 12 → K' r = K r := fun r a b => o.1 r (by omega) (by omega) (by omega) (by omega) (by omega)
  obtain ⟨h1, h2, h3, h4⟩ := h
  unfold RM at h2
  refine ⟨h1, ?_, h3, ?_⟩
  · unfold RM; rw [rr 5 (by decide) (by decide), rr 8 (by decide) (by decide), rr 7 (by decide) (by decide)]; exact h2
  · rw [rr 6 (by decide) (by decide), rr 9 (by decide) (by decide), rr 10 (by decide) (by decide), rr 11 (by decide) (by decide)]; exact h4
section RSettle
variable {g : xG} {l : Launch} {h : xH} {b : Nat} {K : Nat → Nat → Int32} {N : Nat → Nat} {S : Nat → Vl} {Q : Option Value → xH → Prop} {c B : Nat} {so ln bn tf tt dd : Nat → Nat} {nm : Nat → Nat → Nat} {Lk : Nat → List St} {Ck : Nat → Nat → Nat} {mk ek : Nat → Nat} {mg : Nat → Nat → Nat → Option Nat × Option Nat} {bv : Nat → Vl}
/-- what is known, and what is marked -/
def KS (B c : Nat) (so : Nat → Nat) (bv : Nat → Vl) (Lk : Nat → List St) (Ck : Nat → Nat → Nat) (mk : Nat → Nat) (mg : Nat → Nat → Nat → Option Nat × Option Nat) (K : Nat → Nat → Int32) (S : Nat → Vl) (E : Nat → Option (Nat × Vl)) (M : Nat → Nat) : Prop := ∀ k, k < c → K 13 k = nI (M k) ∧ M k < 3 ∧ (so k = 0 → E k ≠ none) ∧ (E k = none → M k ≠ 1) ∧ (M k = 2 → ¬ fin B c so bv Lk Ck mk mg k) ∧ ∀ r, E k = some r → M k = 1 ∧ K 12 k = nI r.1 ∧ r.1 < 100 ∧ r.1 ≠ 4 ∧ (r.1 = 0 → S (68 + k) = r.2 ∧ vWf r.2) ∧ ∃ f, dn B c so bv Lk Ck mk mg f k = some r
theorem KS_RE {E : Nat → Option (Nat × Vl)} {M : Nat → Nat} (h : KS B c so bv Lk Ck mk mg K S E M) : RE K S E c := fun k hk => by
  obtain ⟨h1, h2, h3, h4, h5, h6⟩ := h k hk
  refine ⟨fun e => ?_, fun r e => ?_⟩
  · rw [h1]; intro z; exact h4 e ((nI_eq (by omega) (by decide)).mp z)
  · obtain ⟨a1, a2, a3, a4, a5, a6⟩ := h6 r e
    exact ⟨by rw [h1, a1], a2, a3, a5⟩
theorem KS_Tr {E : Nat → Option (Nat × Vl)} {M : Nat → Nat} (h : KS B c so bv Lk Ck mk mg K S E M) : TrE B c so bv Lk Ck mk mg E := fun k hk r e => ((h k hk).2.2.2.2.2 r e).2.2.2.2.2
theorem c_follow {first : Nat} {E : Nat → Option (Nat × Vl)} {M : Nat → Nat} (hmg : ∀ k, mg k = mng so ln nm c (Ck k)) (hS : RS h b) (hX : RX K N S) (hD : RD K c so ln nm bn tf tt dd Lk Ck mk ek) (hK : KS B c so bv Lk Ck mk mg K S E M) (hB : K 0 0 = nI B) (hB0 : 16 ≤ B) (hB2 : B ≤ 512) (h27 : K 0 27 = 1) (h20 : K 0 20 = 1) (h28 : K 0 28 = nI c) (hf : first < c) (hf0 : M first = 0) (k : ∀ K' N' S' E' M', fG K K' → (∀ j, j = 27 ∨ j = 20 ∨ j = 28 → K' 0 j = K 0 j) → RX K' N' S' → KS B c so bv Lk Ck mk mg K' S' E' M' → M' first ≠ 0 → (∀ i, i < c → M i ≠ 0 → M' i = M i) → S' 65 = S 65 → S' 67 = S 67 → Q none (xB h b K')) : ac g l mX11_follow [.ref b, .int (nI first)] (xB h b K) Q := by
  refine ac_of (by decide) (Nat.le_of_ble_eq_true rfl) ?_
  have hm : ∀ k, mgOk c (mg k) := fun k a n => by rw [hmg]; exact mng_lt
  have hc := hD.1
  suffices main : ∀ (μ : Nat) (ks : List Nat) (E : Nat → Option (Nat × Vl)) (M1 : Nat → Nat) (K1 : Nat → Nat → Int32) (N1 : Nat → Nat) (S1 : Nat → Vl) (lv0 : List (Nat × Value)), 2 * nz M1 c - ks.length ≤ μ → fG K K1 → (∀ j, j = 27 ∨ j = 20 ∨ j = 28 → K1 0 j = K 0 j) → RX K1 N1 S1 → KS B c so bv Lk Ck mk mg K1 S1 E M1 → S1 65 = S 65 → S1 67 = S 67 → cJ K1 ks → ks.Nodup → (∀ k ∈ ks, k < c ∧ M1 k = 0) → nds B c so bv Lk Ck mk mg ks → (first ∈ ks ∨ M1 first ≠ 0) → (∀ i, i < c → M i ≠ 0 → M1 i = M i) → (∀ z ∈ ([(0, .ref b), (2, .int (nI ks.length))] : List (Nat × Value)), z ∈ lv0) → aw g l mX11_follow 9 lv0 [] (xB h b K1) Q by
    refine nX11_follow_0 ?_
    refine sX11_follow_1 ?_
    refine sX11_follow_2 rfl ?_
    refine tX11_follow_3 hS ?_
    refine nX11_follow_6 ?_
    refine sX11_follow_7 rfl ?_
    refine tX11_follow_8 hS (by decide) (by decide) rfl (by simp only [rl]; omega) ?_
    refine main (2 * nz M c) [first] E M _ N S _ (by show 2 * nz M c - 1 ≤ _; omega) (fG_u (by omega)) (fun j _ => by rw [xup2_r (by decide)]) (RX_up (by decide) (by decide) (by decide) hX) (fun i hi => ?_) rfl rfl ⟨xup2_s, trivial⟩ (List.nodup_cons.mpr ⟨fun z => (by cases z), List.nodup_nil⟩) (fun i hi => ?_) trivial (Or.inl List.mem_cons_self) (fun _ _ _ => rfl) (fun z hz => by simp only [List.mem_cons, List.not_mem_nil, or_false] at hz; rcases hz with rfl | rfl <;> exact xlk_mem rfl)
    · rw [xup2_r (by decide), xup2_r (by decide)]; exact hK i hi
    · have : i = first := List.mem_singleton.mp hi
      subst this; exact ⟨hf, hf0⟩
  intro μ
  induction μ with
  | zero =>
    intro ks E M1 K1 N1 S1 lv0 hμ fg ff hX1 hK1 s65 s67 cj nod hks nd hin hM hlv
    have hl := nz_len (c := c) nod hks
    have k0 : ks = [] := List.length_eq_zero_iff.mp (by omega)
    subst k0
    refine aw_lv hlv ?_
    refine sX11_follow_9 rfl ?_
    refine nX11_follow_10 (by decide) (fun _ => ?_) (fun z => absurd z (by decide))
    exact sX11_follow_198 (k K1 N1 S1 E M1 fg ff hX1 hK1 (by rcases hin with y | y; cases y; exact y) hM s65 s67)
  | succ μ ih =>
    intro ks E M1 K1 N1 S1 lv0 hμ fg ff hX1 hK1 s65 s67 cj nod hks nd hin hM hlv
    refine aw_lv hlv ?_
    have hl := nz_len (c := c) nod hks
    cases ks with
    | nil =>
      refine sX11_follow_9 rfl ?_
      refine nX11_follow_10 (by decide) (fun _ => ?_) (fun z => absurd z (by decide))
      exact sX11_follow_198 (k K1 N1 S1 E M1 fg ff hX1 hK1 (by rcases hin with y | y; cases y; exact y) hM s65 s67)
    | cons t ks =>
      obtain ⟨ht, ht0⟩ := hks t List.mem_cons_self
      obtain ⟨cj1, cj2⟩ := id cj
      have hl' : ks.length + 1 ≤ nz M1 c := hl
      have nzc : nz M1 c ≤ 100 := by
        have : ∀ c, nz M1 c ≤ c := by
          intro c
          induction c with
          | zero => exact Nat.le_refl _
          | succ c ih2 => show nz M1 c + _ ≤ c + 1; split <;> omega
        have := this c
        omega
      obtain ⟨q1, q2, q3, q4, q5, q6⟩ := hK1 t ht
      have eEt : E t = none := by
        cases e : E t with
        | none => rfl
        | some r => have := (q6 r e).1; omega
      have hso : so t ≠ 0 := fun z => q3 z eEt
      have hD1 := RD_c fg hD
      obtain ⟨d1, d2, d3, d4⟩ := hD1
      obtain ⟨b1, b2, b3⟩ := d4 t ht
      obtain ⟨t9, t10, tle, t90, tdd, tok, tbk, tpm⟩ := b3 hso
      have Tr := KS_Tr hK1
      have k27 : K1 0 27 = 1 := by rw [ff 27 (by decide)]; exact h27
      have k20 : K1 0 20 = 1 := by rw [ff 20 (by decide)]; exact h20
      have k28 : K1 0 28 = nI c := by rw [ff 28 (by decide)]; exact h28
      have kB : K1 0 0 = nI B := by rw [fg.2 0 (by decide)]; exact hB
      refine sX11_follow_9 rfl ?_
      refine nX11_follow_10 (show ks.length + 1 < 2 ^ 31 by omega) (fun z => absurd z (Nat.succ_ne_zero _)) (fun _ => ?_)
      refine sX11_follow_13 rfl ?_
      refine tX11_follow_14 hS ?_
      refine sX11_follow_17 rfl ?_
      refine nX11_follow_18 ?_
      refine nX11_follow_19 (show 1 ≤ ks.length + 1 by omega) ?_
      rw [show (t :: ks).length - 1 = ks.length from rfl]
      refine tX11_follow_20 hS (by decide) (by decide) rfl (show ks.length < 210 by omega) ?_
      rw [cj1]
      refine sX11_follow_21 ?_
      refine sX11_follow_22 rfl ?_
      refine sX11_follow_23 rfl ?_
      refine tX11_follow_24 hS ?_
      refine sX11_follow_27 rfl ?_
      refine tX11_follow_28 hS (by decide) (by decide) rfl (by simp only [rl]; omega) ?_
      rw [t10]
      refine tX11_follow_29 hS ?_
      refine sX11_follow_32 rfl ?_
      refine sX11_follow_33 rfl ?_
      refine tX11_follow_34 hS ?_
      refine sX11_follow_37 rfl ?_
      refine tX11_follow_38 hS (by decide) (by decide) rfl (by simp only [rl]; omega) ?_
      rw [xup2_r (by decide), t9]
      obtain ⟨K2, hK2⟩ : ∃ K2, K2 = xup2 K1 0 21 (nI (tt t)) := ⟨_, rfl⟩
      rw [← hK2]
      have r2 : ∀ r, r ≠ 0 → K2 r = K1 r := fun r hr => by rw [hK2, xup2_r hr]
      have f2 : ∀ j, j ≠ 21 → K2 0 j = K1 0 j := fun j hj => by rw [hK2, xup2_n hj]
      have g2 : fG K1 K2 := by rw [hK2]; exact fG_0 (by decide)
      have hX2 : RX K2 N1 S1 := by rw [hK2]; exact RX_row0 hX1
      have hT2 : RT K2 (Ck t) (mk t) (dd t) (tt t) (tf t) := ⟨tok, tdd, by rw [hK2, xup2_s], Or.inl ⟨by rw [f2 20 (by decide)]; exact k20, t90, fun p a1 a2 => by rw [r2 11 (by decide)]; exact tbk p a1 a2⟩⟩
      have hE2 : RE K2 S1 E c := by
        have := KS_RE hK1
        intro i hi
        rw [r2 13 (by decide), r2 12 (by decide)]
        exact this i hi
      have hM2 : RM K2 so ln nm c := (RD_c g2 ⟨d1, d2, d3, d4⟩).2.1
      -- it is done
      have popd : ∀ (K3 : Nat → Nat → Int32) (N3 : Nat → Nat) (S3 : Nat → Vl) (f : Nat) (r : Nat × Vl) (lv1 : List (Nat × Value)), fE K2 K3 → gS S1 S3 → RX K3 N3 S3 → f < 100 → K3 0 29 = nI f → K3 0 31 = -1 → r.1 = f → r.1 ≠ 4 → (f = 0 → r.2 = S3 0 ∧ vWf (S3 0)) → (∃ q, dn B c so bv Lk Ck mk mg q t = some r) → (∀ z ∈ ([(0, .ref b), (2, .int (nI (ks.length + 1))), (3, .int (nI t))] : List (Nat × Value)), z ∈ lv1) → aw g l mX11_follow 44 lv1 [] (xB h b K3) Q := by
        intro K3 N3 S3 f r lv1 fe gs hX3 hf3 e29 e31 hrf hr4 hr0 hdn hlv1
        refine aw_lv hlv1 ?_
        refine sX11_follow_44 rfl ?_
        refine tX11_follow_45 hS ?_
        rw [e31]
        refine sX11_follow_48 (fun z => absurd z (by decide)) (fun _ => ?_)
        refine sX11_follow_51 rfl ?_
        refine tX11_follow_52 hS ?_
        refine sX11_follow_55 rfl ?_
        refine nX11_follow_56 ?_
        refine tX11_follow_57 hS (by decide) (by decide) rfl (by simp only [rl]; omega) ?_
        refine sX11_follow_58 rfl ?_
        refine tX11_follow_59 hS ?_
        refine sX11_follow_62 rfl ?_
        refine sX11_follow_63 rfl ?_
        refine tX11_follow_64 hS ?_
        rw [xup2_r (by decide), e29]
        refine tX11_follow_67 hS (by decide) (by decide) rfl (by simp only [rl]; omega) ?_
        refine sX11_follow_68 rfl ?_
        refine nX11_follow_69 ?_
        refine sX11_follow_71 rfl ?_
        refine nX11_follow_72 ?_
        refine nX11_follow_73 ?_
        refine tX11_follow_74 hS (Nat.le_of_ble_eq_true rfl) ?_
        have hX4 : RX (xup2 (xup2 K3 13 t (nI 1)) 12 t (nI f)) N3 S3 := RX_up (by decide) (by decide) (by decide) (RX_up (by decide) (by decide) (by decide) hX3)
        refine c_take hS hX4 (by omega) (by decide) (by omega) (fun K4 N4 o4 x4 => ?_)
        have o40 : K4 0 = K3 0 := by rw [o4 0 (by decide) (by decide) (by decide), xup2_r (by decide), xup2_r (by decide)]
        refine sX11_follow_77 rfl ?_
        rw [show nI (ks.length + 1) + -1 = nI ks.length by rw [show (-1 : Int32) = - nI 1 by rfl, ← Int32.sub_eq_add_neg, pk_sub (by omega)]; rfl]
        refine sX11_follow_80 ?_
        have G3 : fG K3 K4 := fG_t (fG_t (fG_u (by omega)) (fG_u (by omega))) (fG_3 o4)
        have r13 : ∀ i, K4 13 i = if i = t then nI 1 else K1 13 i := fun i => by
          rw [o4 13 (by decide) (by decide) (by decide), xup2_r (by decide)]
          by_cases e : i = t
          · rw [if_pos e, e, xup2_s]
          · rw [if_neg e, xup2_n e, fe.1 13 (by decide) (by decide) (by decide) (by decide) (by decide), r2 13 (by decide)]
        have r12 : ∀ i, K4 12 i = if i = t then nI f else K1 12 i := fun i => by
          rw [o4 12 (by decide) (by decide) (by decide)]
          by_cases e : i = t
          · rw [if_pos e, e, xup2_s]
          · rw [if_neg e, xup2_n e, xup2_r (by decide), fe.1 12 (by decide) (by decide) (by decide) (by decide) (by decide), r2 12 (by decide)]
        have r14 : K4 14 = K1 14 := by rw [o4 14 (by decide) (by decide) (by decide), xup2_r (by decide), xup2_r (by decide), fe.1 14 (by decide) (by decide) (by decide) (by decide) (by decide), r2 14 (by decide)]
        have nzu := nz_up ht0 (show (1 : Nat) ≠ 0 by decide) ht
        obtain ⟨nk1, nk2⟩ := List.nodup_cons.mp nod
        refine ih ks (va_up E t (some r)) (va_up M1 t 1) K4 N4 _ _ (by have : (t :: ks).length = ks.length + 1 := rfl; omega) (fG_t fg (fG_t g2 (fG_t (fG_E fe) G3))) (fun j hj => ?_) x4 (fun i hi => ?_) ?_ ?_ (cJ_c (fun i _ => by rw [r14]) cj2) nk2 (fun i hi => ?_) ?_ ?_ (fun i hi hmi => ?_) (fun z hz => by simp only [List.mem_cons, List.not_mem_nil, or_false] at hz; rcases hz with rfl | rfl <;> exact xlk_mem rfl)
        · rw [o40, fe.2 j (by omega), f2 j (by omega)]; exact ff j hj
        · obtain ⟨p1, p2, p3, p4, p5, p6⟩ := hK1 i hi
          rw [r13 i, r12 i]
          by_cases e : i = t
          · subst e
            rw [if_pos rfl, if_pos rfl, vup_s, vup_s, vup_s]
            refine ⟨rfl, by decide, fun _ z => (by cases z), fun z => (by cases z), fun z => absurd z (by decide), fun s es => ?_⟩
            have := Option.some.inj es
            subst this
            exact ⟨rfl, by rw [hrf], by omega, hr4, fun z => ⟨(hr0 (by omega)).1.symm, by rw [(hr0 (by omega)).1]; exact (hr0 (by omega)).2⟩, hdn⟩
          · rw [if_neg e, if_neg e, vup_n e, vup_n e, vup_n (by omega)]
            refine ⟨p1, p2, p3, p4, p5, fun s es => ?_⟩
            obtain ⟨u1, u2, u3, u4, u5, u6⟩ := p6 s es
            exact ⟨u1, u2, u3, u4, fun z => by rw [gs (68 + i) (by omega) (by omega)]; exact u5 z, u6⟩
        · rw [vup_n (by omega), gs 65 (by decide) (by decide)]; exact s65
        · rw [vup_n (by omega), gs 67 (by decide) (by decide)]; exact s67
        · obtain ⟨u1, u2⟩ := hks i (List.mem_cons_of_mem _ hi)
          exact ⟨u1, by rw [vup_n (show i ≠ t from fun e => nk1 (e ▸ hi))]; exact u2⟩
        · cases ks with
          | nil => exact trivial
          | cons a as => exact nd.2
        · rcases hin with y | y
          · rcases List.mem_cons.mp y with y | y
            · rw [y, vup_s]; exact Or.inr (by decide)
            · exact Or.inl y
          · by_cases e : first = t
            · rw [e, vup_s]; exact Or.inr (by decide)
            · rw [vup_n e]; exact Or.inr y
        · have : i ≠ t := fun e => by
            have h1 := hM i hi hmi
            rw [e, ht0] at h1
            rw [e] at hmi
            exact hmi h1.symm
          rw [vup_n this]; exact hM i hi hmi
      have no4 : ∀ {L V q}, exe B (Ck t) (mk t) E (mg t) L V ≠ rBad 4 q := fun {L V q} z => by
        rcases exe_st (B := B) (C := Ck t) (m := mk t) (E := E) (L := L) (V := V) (hm t) with ⟨-, y⟩ | ⟨q', j, -, hj, ⟨s, es, hs⟩, -⟩
        · exact y q z
        · exact ((hK1 j hj).2.2.2.2.2 s es).2.2.2.1 hs
      refine tX11_follow_39 hS (Nat.le_of_ble_eq_true rfl) ?_
      refine c_expression (rc := true) (so := so) (ln := ln) (nm := nm) (E := E) (B := B) (c := c) (N0 := N1) (S0 := S1) (a := tkF (Ck t) (mk t) (tf t + dd t)) (L := Lk t) (o := true) (e := ek t) hS hT2 (by rw [f2 27 (by decide)]; exact k27) (by rw [f2 0 (by decide)]; exact kB) hB0 hB2 (fun _ => ⟨by rw [f2 28 (by decide)]; exact k28, d1, hM2, hE2, d3⟩) hX2 tle (Nat.le_refl _) rfl tpm (fun _ => rfl) ?_
      rw [← hmg t]
      refine ⟨fun z => (by cases z), fun z => (by cases z), fun _ K3 N3 S3 ret fe gs hX3 eR wv e29 e31 => ?_, fun _ K3 N3 S3 ret f p fe gs hX3 eR f0 f1 e29 e30 e31 => ?_, fun _ K3 N3 S3 ret j fe gs hX3 eR hj e29 e31 ej => ?_⟩
      · refine sX11_follow_42 ?_
        exact popd K3 N3 S3 0 (0, S3 0) _ fe gs hX3 (by decide) e29 e31 rfl (show (0 : Nat) ≠ 4 by decide) (fun _ => ⟨rfl, wv⟩) (Tr_done hm Tr hso (by rw [eR]; rfl)) (fun z hz => by simp only [List.mem_cons, List.not_mem_nil, or_false] at hz; rcases hz with rfl | rfl | rfl <;> exact xlk_mem rfl)
      · refine sX11_follow_42 ?_
        exact popd K3 N3 S3 f (f, v00) _ fe gs hX3 f1 e29 e31 rfl (fun (z : f = 4) => no4 (z ▸ eR)) (fun z => absurd z f0) (Tr_done hm Tr hso (by rw [eR]; rfl)) (fun z hz => by simp only [List.mem_cons, List.not_mem_nil, or_false] at hz; rcases hz with rfl | rfl | rfl <;> exact xlk_mem rfl)
      · refine sX11_follow_42 ?_
        obtain ⟨m1, m2, m3, m4, m5, m6⟩ := hK1 j hj
        have r13 : K3 13 = K1 13 := by rw [fe.1 13 (by decide) (by decide) (by decide) (by decide) (by decide), r2 13 (by decide)]
        have r12 : K3 12 = K1 12 := by rw [fe.1 12 (by decide) (by decide) (by decide) (by decide) (by decide), r2 12 (by decide)]
        have r14 : K3 14 = K1 14 := by rw [fe.1 14 (by decide) (by decide) (by decide) (by decide) (by decide), r2 14 (by decide)]
        have cj3 : cJ K3 (t :: ks) := cJ_c (fun i _ => by rw [r14]) cj
        have G3 : fG K K3 := fG_t fg (fG_t g2 (fG_E fe))
        have F3 : ∀ j, j = 27 ∨ j = 20 ∨ j = 28 → K3 0 j = K 0 j := fun j hj => by rw [fe.2 j (by omega), f2 j (by omega)]; exact ff j hj
        have s65' : S3 65 = S 65 := by rw [gs 65 (by decide) (by decide)]; exact s65
        have s67' : S3 67 = S 67 := by rw [gs 67 (by decide) (by decide)]; exact s67
        have lt100 : ∀ i ∈ t :: ks, i < 100 := fun i hi => by have := (hks i hi).1; omega
        -- endless
        have endl : ∀ lv1 : List (Nat × Value), (M1 j = 2 ∨ j ∈ t :: ks) → (∀ z ∈ ([(0, .ref b), (2, .int (nI (ks.length + 1)))] : List (Nat × Value)), z ∈ lv1) → aw g l mX11_follow 149 lv1 [] (xB h b K3) Q := by
          intro lv1 hen hlv1
          refine aw_lv hlv1 ?_
          have nt : ¬ fin B c so bv Lk Ck mk mg t := by
            rcases hen with y | y
            · exact Tr_nofin hm Tr hso eR (m5 y)
            · exact nds_loop hm nd hso Tr eR y
          have nall : ∀ i ∈ t :: ks, ¬ fin B c so bv Lk Ck mk mg i := fun i hi => by
            rcases List.mem_cons.mp hi with y | y
            · rw [y]; exact nt
            · exact nds_all hm nd nt i y
          refine nX11_follow_149 ?_
          refine sX11_follow_150 ?_
          suffices H : ∀ f i (K4 : Nat → Nat → Int32) (lv2 : List (Nat × Value)), i + f = ks.length + 1 → (∀ r, r ≠ 13 → K4 r = K3 r) → (∀ x, x < 210 → K4 13 x = K3 13 x ∨ K4 13 x = nI 2) → (∀ x, x < 100 → (∃ q, q < i ∧ K3 14 q = nI x) → K4 13 x = nI 2) → (∀ x, x < 100 → x ∉ t :: ks → K4 13 x = K3 13 x) → (∀ z ∈ ([(0, .ref b), (2, .int (nI (ks.length + 1))), (6, .int (nI i))] : List (Nat × Value)), z ∈ lv2) → aw g l mX11_follow 152 lv2 [] (xB h b K4) Q from H (ks.length + 1) 0 K3 _ (by omega) (fun _ _ => rfl) (fun _ _ => Or.inl rfl) (fun x _ z => by obtain ⟨q, hq, -⟩ := z; omega) (fun _ _ _ => rfl) (fun z hz => by simp only [List.mem_cons, List.not_mem_nil, or_false] at hz; rcases hz with rfl | rfl | rfl <;> exact xlk_mem rfl)
          intro f
          induction f with
          | zero =>
            intro i K4 lv2 hi o4 o5 o6 o7 hlv2
            refine aw_lv hlv2 ?_
            refine sX11_follow_152 rfl ?_
            refine sX11_follow_154 rfl ?_
            refine nX11_follow_155 (by omega) (by omega) (fun _ => ?_) (fun z => absurd z (by omega))
            refine nX11_follow_177 ?_
            refine sX11_follow_178 ?_
            refine sX11_follow_179 ?_
            refine sX11_follow_195 ?_
            refine sX11_follow_9 rfl ?_
            refine nX11_follow_10 (by decide) (fun _ => ?_) (fun z => absurd z (by decide))
            refine sX11_follow_198 (k K4 N3 S3 E (fun x => if x ∈ t :: ks then 2 else M1 x) (fG_t G3 ⟨fun r a _ _ _ e => o4 r (by omega), fun j _ => by rw [o4 0 (by decide)]⟩) (fun j hj => by rw [o4 0 (by decide)]; exact F3 j hj) (RX_row (o4 1 (by decide)) (o4 2 (by decide)) (o4 3 (by decide)) hX3) (fun x hx => ?_) ?_ (fun x hx hmx => ?_) s65' s67')
            · obtain ⟨p1, p2, p3, p4, p5, p6⟩ := hK1 x hx
              rw [o4 12 (by decide), r12]
              dsimp only
              by_cases hin' : x ∈ t :: ks
              · have e0 : E x = none := by
                  cases e : E x with
                  | none => rfl
                  | some s => have := (p6 s e).1; have := (hks x hin').2; omega
                obtain ⟨q, hq, eq⟩ := cJ_of cj3 hin'
                have hq' : q < ks.length + 1 := hq
                rw [if_pos hin', o6 x (by omega) ⟨q, by omega, eq⟩]
                exact ⟨rfl, by decide, p3, fun _ => by decide, fun _ => nall x hin', fun s es => by rw [e0] at es; cases es⟩
              · rw [if_neg hin', o7 x (by omega) hin', r13]
                refine ⟨p1, p2, p3, p4, p5, fun s es => ?_⟩
                obtain ⟨u1, u2, u3, u4, u5, u6⟩ := p6 s es
                exact ⟨u1, u2, u3, u4, fun z => by rw [gs (68 + x) (by omega) (by omega)]; exact u5 z, u6⟩
            · show (if first ∈ t :: ks then 2 else M1 first) ≠ 0
              rcases hin with y | y
              · rw [if_pos y]; decide
              · split
                · decide
                · exact y
            · show (if x ∈ t :: ks then 2 else M1 x) = M x
              have h1 := hM x hx hmx
              rw [if_neg (fun y => by have := (hks x y).2; omega)]; exact h1
          | succ f ihf =>
            intro i K4 lv2 hi o4 o5 o6 o7 hlv2
            refine aw_lv hlv2 ?_
            obtain ⟨x, ex, hx⟩ := cJ_at cj3 (show i < (t :: ks).length by show i < ks.length + 1; omega)
            have hx100 := lt100 x hx
            refine sX11_follow_152 rfl ?_
            refine sX11_follow_154 rfl ?_
            refine nX11_follow_155 (by omega) (by omega) (fun z => absurd z (by omega)) (fun _ => ?_)
            refine sX11_follow_158 rfl ?_
            refine tX11_follow_159 hS ?_
            refine sX11_follow_162 rfl ?_
            refine tX11_follow_163 hS ?_
            refine sX11_follow_166 rfl ?_
            refine tX11_follow_168 hS (by decide) (by decide) rfl (show i < 210 by omega) ?_
            rw [o4 14 (by decide), ex]
            refine nX11_follow_169 ?_
            refine tX11_follow_170 hS (by decide) (by decide) rfl (show x < 210 by omega) ?_
            refine nX11_follow_171 rfl ?_
            refine sX11_follow_174 ?_
            refine ihf (i + 1) _ _ (by omega) (fun r hr => by rw [xup2_r hr]; exact o4 r hr) (fun y hy => ?_) (fun y hy hz => ?_) (fun y hy hz => ?_) (fun z hz => by simp only [List.mem_cons, List.not_mem_nil, or_false] at hz; rcases hz with rfl | rfl | rfl <;> exact xlk_mem rfl)
            · by_cases e : y = x
              · rw [e, xup2_s]; exact Or.inr rfl
              · rw [xup2_n e]; exact o5 y hy
            · by_cases e : y = x
              · rw [e, xup2_s]
              · rw [xup2_n e]
                obtain ⟨q, hq, eq⟩ := hz
                refine o6 y hy ⟨q, ?_, eq⟩
                rcases Nat.eq_or_lt_of_le (Nat.le_of_lt_succ hq) with w | w
                · rw [w, ex] at eq
                  exact absurd ((nI_eq (by omega) (by omega)).mp eq).symm e
                · exact w
            · have : y ≠ x := fun e => hz (e ▸ hx)
              rw [xup2_n this]; exact o7 y hy hz
        -- one more waits
        have push : ∀ lv1 : List (Nat × Value), ¬ (M1 j = 2 ∨ j ∈ t :: ks) → (∀ z ∈ ([(0, .ref b), (2, .int (nI (ks.length + 1)))] : List (Nat × Value)), z ∈ lv1) → aw g l mX11_follow 182 lv1 [] (xB h b K3) Q := by
          intro lv1 hen hlv1
          refine aw_lv hlv1 ?_
          have mj0 : M1 j = 0 := by
            have := m4 ej
            have : M1 j ≠ 2 := fun z => hen (Or.inl z)
            omega
          refine sX11_follow_182 rfl ?_
          refine tX11_follow_183 hS ?_
          refine sX11_follow_186 rfl ?_
          refine sX11_follow_187 rfl ?_
          refine tX11_follow_188 hS ?_
          rw [e31]
          refine tX11_follow_191 hS (by decide) (by decide) rfl (show ks.length + 1 < 210 by omega) ?_
          refine nX11_follow_192 rfl ?_
          refine sX11_follow_195 ?_
          refine ih (j :: t :: ks) E M1 _ N3 S3 _ (by show 2 * nz M1 c - (ks.length + 1 + 1) ≤ μ; have : 2 * nz M1 c - (ks.length + 1) ≤ μ + 1 := hμ; omega) (fG_t G3 (fG_u (by omega))) (fun i hi => by rw [xup2_r (by decide)]; exact F3 i hi) (RX_up (by decide) (by decide) (by decide) hX3) (fun x hx => ?_) s65' s67' ⟨xup2_s, cJ_c (fun i hi => ?_) cj3⟩ (List.nodup_cons.mpr ⟨fun y => hen (Or.inr y), nod⟩) (fun i hi => ?_) ⟨⟨hso, E, Tr, eR⟩, nd⟩ (hin.imp (fun y => List.mem_cons_of_mem _ y) id) hM (fun z hz => by simp only [List.mem_cons, List.not_mem_nil, or_false] at hz; rcases hz with rfl | rfl <;> exact xlk_mem rfl)
          · obtain ⟨p1, p2, p3, p4, p5, p6⟩ := hK1 x hx
            rw [xup2_r (by decide), xup2_r (by decide), r13, r12]
            refine ⟨p1, p2, p3, p4, p5, fun s es => ?_⟩
            obtain ⟨u1, u2, u3, u4, u5, u6⟩ := p6 s es
            exact ⟨u1, u2, u3, u4, fun z => by rw [gs (68 + x) (by omega) (by omega)]; exact u5 z, u6⟩
          · have hi' : i < ks.length + 1 := hi
            rw [xup2_n (show i ≠ ks.length + 1 by omega)]
          · rcases List.mem_cons.mp hi with y | y
            · rw [y]; exact ⟨hj, mj0⟩
            · exact hks i y
        have branch : ∀ (en : Int32) (lv1 : List (Nat × Value)), (en = 1 ∧ (M1 j = 2 ∨ j ∈ t :: ks) ∨ en = 0 ∧ ¬ (M1 j = 2 ∨ j ∈ t :: ks)) → (∀ z ∈ ([(0, .ref b), (2, .int (nI (ks.length + 1))), (5, .int en)] : List (Nat × Value)), z ∈ lv1) → aw g l mX11_follow 144 lv1 [] (xB h b K3) Q := by
          intro en lv1 hen hlv1
          refine aw_lv hlv1 ?_
          refine sX11_follow_144 rfl ?_
          rcases hen with ⟨rfl, y⟩ | ⟨rfl, y⟩
          · refine sX11_follow_146 (fun z => absurd z (by decide)) (fun _ => ?_)
            exact endl _ y (fun z hz => by simp only [List.mem_cons, List.not_mem_nil, or_false] at hz; rcases hz with rfl | rfl <;> exact xlk_mem rfl)
          · refine sX11_follow_146 (fun _ => ?_) (fun z => absurd rfl z)
            exact push _ y (fun z hz => by simp only [List.mem_cons, List.not_mem_nil, or_false] at hz; rcases hz with rfl | rfl <;> exact xlk_mem rfl)
        -- is it among those that wait
        have scan : ∀ (f i : Nat) (en : Int32) (lv1 : List (Nat × Value)), i + f = ks.length + 1 → (en = 1 ∧ (M1 j = 2 ∨ ∃ q, q < i ∧ K3 14 q = nI j) ∨ en = 0 ∧ ¬ (M1 j = 2 ∨ ∃ q, q < i ∧ K3 14 q = nI j)) → (∀ z ∈ ([(0, .ref b), (2, .int (nI (ks.length + 1))), (5, .int en), (6, .int (nI i))] : List (Nat × Value)), z ∈ lv1) → aw g l mX11_follow 106 lv1 [] (xB h b K3) Q := by
          intro f
          induction f with
          | zero =>
            intro i en lv1 hi hen hlv1
            refine aw_lv hlv1 ?_
            refine sX11_follow_106 rfl ?_
            refine sX11_follow_108 rfl ?_
            refine nX11_follow_109 (by omega) (by omega) (fun _ => ?_) (fun z => absurd z (by omega))
            refine branch en _ ?_ (fun z hz => by simp only [List.mem_cons, List.not_mem_nil, or_false] at hz; rcases hz with rfl | rfl | rfl <;> exact xlk_mem rfl)
            have eqv : (M1 j = 2 ∨ ∃ q, q < i ∧ K3 14 q = nI j) ↔ (M1 j = 2 ∨ j ∈ t :: ks) := by
              refine ⟨fun z => z.imp id (fun y => ?_), fun z => z.imp id (fun y => ?_)⟩
              · obtain ⟨q, hq, eq⟩ := y
                obtain ⟨x, ex, hx⟩ := cJ_at cj3 (show q < (t :: ks).length by show q < ks.length + 1; omega)
                rw [ex] at eq
                have := lt100 x hx
                rw [(nI_eq (by omega) (by omega)).mp eq] at hx
                exact hx
              · obtain ⟨q, hq, eq⟩ := cJ_of cj3 y
                have hq' : q < ks.length + 1 := hq
                exact ⟨q, by omega, eq⟩
            rw [← eqv]; exact hen
          | succ f ihf =>
            intro i en lv1 hi hen hlv1
            refine aw_lv hlv1 ?_
            obtain ⟨x, ex, hx⟩ := cJ_at cj3 (show i < (t :: ks).length by show i < ks.length + 1; omega)
            have hx100 := lt100 x hx
            have up : ∀ en' : Int32, (en' = 1 ∧ (M1 j = 2 ∨ ∃ q, q < i + 1 ∧ K3 14 q = nI j) ∨ en' = 0 ∧ ¬ (M1 j = 2 ∨ ∃ q, q < i + 1 ∧ K3 14 q = nI j)) → ∀ lv2 : List (Nat × Value), (∀ z ∈ ([(0, .ref b), (2, .int (nI (ks.length + 1))), (6, .int (nI i))] : List (Nat × Value)), z ∈ lv2) → aw g l mX11_follow 136 lv2 [.int en'] (xB h b K3) Q := by
              intro en' hen' lv2 hlv2
              refine aw_lv hlv2 ?_
              refine sX11_follow_136 ?_
              refine nX11_follow_138 rfl ?_
              refine sX11_follow_141 ?_
              exact ihf (i + 1) en' _ (by omega) hen' (fun z hz => by simp only [List.mem_cons, List.not_mem_nil, or_false] at hz; rcases hz with rfl | rfl | rfl | rfl <;> exact xlk_mem rfl)
            have yes : (M1 j = 2 ∨ ∃ q, q < i + 1 ∧ K3 14 q = nI j) → ∀ lv2 : List (Nat × Value), (∀ z ∈ ([(0, .ref b), (2, .int (nI (ks.length + 1))), (6, .int (nI i))] : List (Nat × Value)), z ∈ lv2) → aw g l mX11_follow 131 lv2 [] (xB h b K3) Q := by
              intro y lv2 hlv2
              refine aw_lv hlv2 ?_
              refine sX11_follow_131 ?_
              refine sX11_follow_132 ?_
              exact up 1 (Or.inl ⟨rfl, y⟩) _ (fun z hz => by simp only [List.mem_cons, List.not_mem_nil, or_false] at hz; rcases hz with rfl | rfl | rfl <;> exact xlk_mem rfl)
            refine sX11_follow_106 rfl ?_
            refine sX11_follow_108 rfl ?_
            refine nX11_follow_109 (by omega) (by omega) (fun z => absurd z (by omega)) (fun _ => ?_)
            refine sX11_follow_112 rfl ?_
            rcases hen with ⟨rfl, y⟩ | ⟨rfl, y⟩
            · refine sX11_follow_114 (fun _ => ?_) (fun z => absurd z (by decide))
              exact yes (y.imp id (fun ⟨q, hq, eq⟩ => ⟨q, by omega, eq⟩)) _ (fun z hz => by simp only [List.mem_cons, List.not_mem_nil, or_false] at hz; rcases hz with rfl | rfl | rfl <;> exact xlk_mem rfl)
            · refine sX11_follow_114 (fun z => absurd rfl z) (fun _ => ?_)
              refine sX11_follow_117 rfl ?_
              refine tX11_follow_118 hS ?_
              refine sX11_follow_121 rfl ?_
              refine tX11_follow_123 hS (by decide) (by decide) rfl (show i < 210 by omega) ?_
              rw [ex]
              refine sX11_follow_124 rfl ?_
              refine tX11_follow_125 hS ?_
              rw [e31]
              refine nX11_follow_128 (by omega) (by omega) (fun z => ?_) (fun z => ?_)
              · refine sX11_follow_135 ?_
                refine up 0 (Or.inr ⟨rfl, fun w => ?_⟩) _ (fun z hz => by simp only [List.mem_cons, List.not_mem_nil, or_false] at hz; rcases hz with rfl | rfl | rfl <;> exact xlk_mem rfl)
                rcases w with w | ⟨q, hq, eq⟩
                · exact y (Or.inl w)
                · rcases Nat.eq_or_lt_of_le (Nat.le_of_lt_succ hq) with v | v
                  · rw [v, ex] at eq; exact z ((nI_eq (by omega) (by omega)).mp eq)
                  · exact y (Or.inr ⟨q, v, eq⟩)
              · exact yes (Or.inr ⟨i, by omega, by rw [ex, z]⟩) _ (fun z hz => by simp only [List.mem_cons, List.not_mem_nil, or_false] at hz; rcases hz with rfl | rfl | rfl <;> exact xlk_mem rfl)
        have start : ∀ (en : Int32) (lv1 : List (Nat × Value)), (en = 1 ∧ M1 j = 2 ∨ en = 0 ∧ M1 j ≠ 2) → (∀ z ∈ ([(0, .ref b), (2, .int (nI (ks.length + 1)))] : List (Nat × Value)), z ∈ lv1) → aw g l mX11_follow 101 lv1 [.int en] (xB h b K3) Q := by
          intro en lv1 hen hlv1
          refine aw_lv hlv1 ?_
          refine sX11_follow_101 ?_
          refine nX11_follow_103 ?_
          refine sX11_follow_104 ?_
          refine scan (ks.length + 1) 0 en _ (by omega) ?_ (fun z hz => by simp only [List.mem_cons, List.not_mem_nil, or_false] at hz; rcases hz with rfl | rfl | rfl | rfl <;> exact xlk_mem rfl)
          rcases hen with ⟨rfl, y⟩ | ⟨rfl, y⟩
          · exact Or.inl ⟨rfl, Or.inl y⟩
          · refine Or.inr ⟨rfl, fun z => ?_⟩
            rcases z with z | ⟨q, hq, -⟩
            · exact y z
            · omega
        refine sX11_follow_44 rfl ?_
        refine tX11_follow_45 hS ?_
        rw [e31]
        refine nX11_follow_48 (by omega) ?_
        refine sX11_follow_83 rfl ?_
        refine tX11_follow_84 hS ?_
        refine sX11_follow_87 rfl ?_
        refine tX11_follow_88 hS ?_
        rw [e31]
        refine tX11_follow_91 hS (by decide) (by decide) rfl (show j < 210 by omega) ?_
        rw [r13, m1]
        refine nX11_follow_92 ?_
        refine nX11_follow_93 (by omega) (by decide) (fun z => ?_) (fun z => ?_)
        · refine sX11_follow_100 ?_
          exact start 0 _ (Or.inr ⟨rfl, z⟩) (fun z hz => by simp only [List.mem_cons, List.not_mem_nil, or_false] at hz; rcases hz with rfl | rfl <;> exact xlk_mem rfl)
        · refine sX11_follow_96 ?_
          refine sX11_follow_97 ?_
          exact start 1 _ (Or.inl ⟨rfl, z⟩) (fun z hz => by simp only [List.mem_cons, List.not_mem_nil, or_false] at hz; rcases hz with rfl | rfl <;> exact xlk_mem rfl)
end RSettle
