/-- a DEFINITION that waits: which one, steps done, steps left, VALUES held -/
abbrev We : Type := Nat × List St × List St × List Vl
def tot : List We → List Vl
  | [] => []
  | e :: ws => e.2.2.2 ++ tot ws
def wJ (J : Nat → Nat → Int32) (R : Nat) (cs : Nat → Nat) : List We → Prop
  | [] => True
  | e :: ws => (J (R + 1210) ws.length = nI e.1 ∧ J (R + 1211) ws.length = nI (cs e.1 + e.2.1.length) ∧ J (R + 1212) ws.length = nI (tot ws).length) ∧ wJ J R cs ws
theorem wJ_c {J J' : Nat → Nat → Int32} {R : Nat} {cs : Nat → Nat} : ∀ {ws : List We}, (∀ i, i < ws.length → J' (R + 1210) i = J (R + 1210) i ∧ J' (R + 1211) i = J (R + 1211) i ∧ J' (R + 1212) i = J (R + 1212) i) → wJ J R cs ws → wJ J' R cs ws
  | [], _, _ => trivial
  | e :: ws, h, ⟨⟨h1, h2, h3⟩, h4⟩ => by
    obtain ⟨a1, a2, a3⟩ := h ws.length (Nat.lt_succ_self _)
    exact ⟨⟨a1.trans h1, a2.trans h2, a3.trans h3⟩, wJ_c (fun i hi => h i (Nat.lt_succ_of_lt hi)) h4⟩
section Settle2
variable {B c : Nat} {so bn : Nat → Nat} {Lk : Nat → List St} {Ck : Nat → Nat → Nat} {mk lo : Nat → Nat} {mg : Nat → Nat → Nat → Option Nat × Option Nat}
def wOk (B c : Nat) (so : Nat → Nat) (Lk : Nat → List St) (Ck : Nat → Nat → Nat) (mk lo : Nat → Nat) (mg : Nat → Nat → Nat → Option Nat × Option Nat) (E : Nat → Option (Nat × Vl)) : List We → Prop
  | [] => True
  | e :: ws => (e.1 < c ∧ so e.1 ≠ 0 ∧ E e.1 = some (4, v00) ∧ Lk e.1 = e.2.1 ++ e.2.2.1 ∧ exe B (Ck e.1) (mk e.1) (stE E) (mg e.1) e.2.1 [] = rOk e.2.2.2 ∧ dk (Ck e.1) (mk e.1) (lo e.1) 66 1 e.2.2.1 e.2.2.2.length ∧ e.2.2.2.length ≤ 66) ∧ wOk B c so Lk Ck mk lo mg E ws
theorem wOk_c {E E' : Nat → Option (Nat × Vl)} (hm : ∀ k, mgOk c (mg k)) (hl : LeE c (stE E) (stE E')) : ∀ {ws : List We}, (∀ e ∈ ws, E' e.1 = E e.1) → wOk B c so Lk Ck mk lo mg E ws → wOk B c so Lk Ck mk lo mg E' ws
  | [], _, _ => trivial
  | e :: ws, h, ⟨⟨a1, a2, a3, a4, a5, a6, a7⟩, b⟩ => by
    refine ⟨⟨a1, a2, (h e List.mem_cons_self).trans a3, a4, ?_, a6, a7⟩, wOk_c hm hl (fun e' he' => h e' (List.mem_cons_of_mem _ he')) b⟩
    rw [exe_mono (hm e.1) hl (by rw [a5]; exact (show (0 : Nat) ≠ 2 by decide))]
    exact a5
theorem tot_len {E : Nat → Option (Nat × Vl)} : ∀ {ws : List We}, wOk B c so Lk Ck mk lo mg E ws → (tot ws).length ≤ 66 * ws.length
  | [], _ => Nat.le_refl _
  | e :: ws, ⟨⟨_, _, _, _, _, _, a7⟩, b⟩ => by
    have := tot_len b
    show (e.2.2.2 ++ tot ws).length ≤ 66 * (ws.length + 1)
    rw [List.length_append]
    omega
/-- all that is true of the marks -/
def mOk (B c : Nat) (so : Nat → Nat) (bv : Nat → Vl) (Lk : Nat → List St) (Ck : Nat → Nat → Nat) (mk : Nat → Nat) (mg : Nat → Nat → Nat → Option Nat × Option Nat) (E : Nat → Option (Nat × Vl)) (ks : List Nat) : Prop := ∀ k, k < c → ∀ r, E k = some r → (r.1 ≠ 4 → ∃ f, dn B c so bv Lk Ck mk mg f k = some r) ∧ (r.1 = 4 → k ∈ ks ∨ ¬ fin B c so bv Lk Ck mk mg k)
theorem mOk_Tr {bv : Nat → Vl} {E : Nat → Option (Nat × Vl)} {ks : List Nat} (h : mOk B c so bv Lk Ck mk mg E ks) : TrE B c so bv Lk Ck mk mg (stE E) := fun k hk r e => by
  cases e' : E k with
  | none => rw [stE_n e'] at e; cases e
  | some s =>
    by_cases z : s.1 = 4
    · rw [stE_4 e' z] at e; cases e
    · rw [stE_s e' z] at e
      have := Option.some.inj e
      subst this
      exact (h k hk s e').1 z
theorem stE_up4 {E : Nat → Option (Nat × Vl)} {k : Nat} (h : E k = none) : stE (va_up E k (some (4, v00))) = stE E := by
  funext j
  by_cases e : j = k
  · subst e; rw [stE_4 vup_s rfl, stE_n h]
  · unfold stE; rw [vup_n e]
theorem stE_up {E : Nat → Option (Nat × Vl)} {k : Nat} {s r : Nat × Vl} (h : E k = some s) (h4 : s.1 = 4) : LeE c (stE E) (stE (va_up E k (some r))) := fun j hj x e => by
  by_cases z : j = k
  · subst z; rw [stE_4 h h4] at e; cases e
  · have : stE (va_up E k (some r)) j = stE E j := by unfold stE; rw [vup_n z]
    rw [this]; exact e
end Settle2
section Settle3
variable {g : xG} {l : Launch} {h : xH} {J : Nat → Nat → Int32} {Q : Option Value → xH → Prop} {R L L' c w H : Nat} {E : Nat → Option (Nat × Vl)} {so ln np bn cs : Nat → Nat} {nm : Nat → Nat → Nat} {T : Nat → Nat} {Lk : Nat → List St} {Ck : Nat → Nat → Nat} {mk lo : Nat → Nat}
theorem c_has1 {k : Int32} (hQ : CW h w) (hc : J w 9 = nI c) (hcc : c ≤ 100) (k1 : ∀ j, k = nI j → j < c → Q (some (.int 1)) (xJ h J)) (k0 : (∀ j, j < c → k ≠ nI j) → Q (some (.int 0)) (xJ h J)) : ac g l mX1_has [.ref w, .int k] (xJ h J) Q := by
  refine ac_of (by decide) (Nat.le_of_ble_eq_true rfl) ?_
  have tw := hQ.1
  have no : (∀ j, j < c → k ≠ nI j) → aw g l mX1_has 16 (lv_args 0 [.ref w, .int k]) [] (xJ h J) Q := fun z => by
    refine sX1_has_16 ?_
    exact sX1_has_17 (Or.inl rfl) (k0 z)
  refine sX1_has_0 rfl ?_
  refine sX1_has_1 (fun z => no (fun j hj e => ?_)) (fun z => ?_)
  · rw [e] at z; exact absurd z (n_lt0 (by omega))
  obtain ⟨j, ej, hj⟩ : ∃ j, k = nI j ∧ j < 2 ^ 31 := by
    refine ⟨k.toInt.toNat, ?_, ?_⟩
    · apply Int32.toInt_inj.mp
      have h0 : ¬ k.toInt < 0 := by rw [Int32.lt_iff_toInt_lt] at z; exact z
      have := Int32.toInt_lt k
      rw [nI_toInt (by omega)]
      omega
    · have := Int32.toInt_lt k
      omega
  subst ej
  refine sX1_has_4 rfl ?_
  refine sX1_has_5 rfl ?_
  refine jX1_has_6 (by assumption) ?_
  rw [hc]
  refine nX1_has_9 hj (by omega) (fun y => no (fun i hi e => ?_)) (fun y => ?_)
  · have := (nI_eq hj (by omega)).mp e; omega
  · refine sX1_has_12 ?_
    refine sX1_has_13 ?_
    exact sX1_has_17 (Or.inr rfl) (k1 j rfl y)
theorem c_enter {k n hd : Nat} (hU : UC g h w R L L' H) (hD : WD J w c so ln np nm T bn cs Lk Ck mk lo) (hk : k < c) (hn : n < 100) (h8 : J R 8 = nI n) (h4 : J R 4 = nI hd) (kk : ∀ J', (∀ r, r ≠ R → r ≠ L + 3 → r ≠ R + 1210 → r ≠ R + 1211 → r ≠ R + 1212 → J' r = J r) → (∀ j, j ≠ 8 → J' R j = J R j) → J' R 8 = nI (n + 1) → (∀ i, i ≠ k → J' (L + 3) i = J (L + 3) i) → J' (L + 3) k = nI 1 → (∀ i, i ≠ n → J' (R + 1210) i = J (R + 1210) i ∧ J' (R + 1211) i = J (R + 1211) i ∧ J' (R + 1212) i = J (R + 1212) i) → J' (R + 1210) n = nI k → J' (R + 1211) n = nI (cs k) → J' (R + 1212) n = nI hd → Q none (xJ h J')) : ac g l mX7_enter [.ref R, .int (nI k), .ref w] (xJ h J) Q := by
  refine ac_of (by decide) (Nat.le_of_ble_eq_true rfl) ?_
  have hc := hD.2.1.2.1
  have hwR := hU.2.2.2.1
  obtain ⟨r1, ⟨p0, p1, p2, p3, p5, p6, p7⟩, ⟨u0, u1, u2⟩, -, ⟨t4, ⟨l0, l1, l2⟩, tv, tf, ts, -⟩, -, lay⟩ := hU.2.1
  obtain ⟨tw, ⟨-, -, -, -, -, -, w6, -⟩, -, ⟨-, -, -, -, t10, -⟩, -⟩ := hU.1.1
  refine sX7_enter_0 rfl ?_
  refine sX7_enter_1 rfl ?_
  refine jX7_enter_2 (Nat.le_of_ble_eq_true rfl) (by assumption) ?_
  refine c_has1 hU.1.1 hD.2.1.1 hc (fun j ej hj => ?_) (fun z => absurd rfl (z k hk))
  refine sX7_enter_5 (fun z => absurd z (by decide)) (fun _ => ?_)
  refine sX7_enter_8 rfl ?_
  refine jX7_enter_9 (by assumption) ?_
  rw [h8]
  refine nX7_enter_12 ?_
  refine nX7_enter_14 (by omega) (by omega) (fun z => absurd z (by omega)) (fun _ => ?_)
  refine sX7_enter_17 rfl ?_
  refine jX7_enter_18 (by assumption) (by assumption) ?_
  refine jX7_enter_21 (by assumption) (by assumption) ?_
  refine sX7_enter_24 rfl ?_
  refine nX7_enter_25 ?_
  refine jX7_enter_26 (by assumption) (by omega) (by omega) ?_
  refine sX7_enter_27 rfl ?_
  refine jX7_enter_28 (by assumption) (by assumption) ?_
  refine sX7_enter_31 rfl ?_
  refine jX7_enter_32 (by assumption) ?_
  rw [xup2_r (by omega), h8]
  refine sX7_enter_35 rfl ?_
  refine jX7_enter_36 (by assumption) (by omega) (by omega) ?_
  refine sX7_enter_37 rfl ?_
  refine jX7_enter_38 (by assumption) (by assumption) ?_
  refine sX7_enter_41 rfl ?_
  refine jX7_enter_42 (by assumption) ?_
  rw [xup2_r (by omega), xup2_r (by omega), h8]
  refine sX7_enter_45 rfl ?_
  refine jX7_enter_46 (by assumption) (by assumption) ?_
  refine sX7_enter_49 rfl ?_
  refine jX7_enter_50 (by assumption) (by omega) (by omega) ?_
  rw [xup2_r (by omega), xup2_r (by omega), (hD.2.2.1 k hk).2.2.1]
  refine jX7_enter_51 (by assumption) (by omega) (by omega) ?_
  refine sX7_enter_52 rfl ?_
  refine jX7_enter_53 (by assumption) (by assumption) ?_
  refine sX7_enter_56 rfl ?_
  refine jX7_enter_57 (by assumption) ?_
  rw [xup2_r (by omega), xup2_r (by omega), xup2_r (by omega), h8]
  refine sX7_enter_60 rfl ?_
  refine jX7_enter_61 (by assumption) ?_
  rw [xup2_r (by omega), xup2_r (by omega), xup2_r (by omega), h4]
  refine jX7_enter_64 (by assumption) (by omega) (by omega) ?_
  refine sX7_enter_65 rfl ?_
  refine sX7_enter_66 rfl ?_
  refine jX7_enter_67 (by assumption) ?_
  rw [xup2_r (by omega), xup2_r (by omega), xup2_r (by omega), xup2_r (by omega), h8]
  refine nX7_enter_70 ?_
  refine nX7_enter_71 ?_
  refine jX7_enter_72 (by assumption) ?_
  refine sX7_enter_75 (kk _ (fun r a1 a2 a3 a4 a5 => by rw [xup2_r a1, xup2_r a5, xup2_r a4, xup2_r a3, xup2_r a2]) (fun j hj => by rw [xup2_n hj, xup2_r (by omega), xup2_r (by omega), xup2_r (by omega), xup2_r (by omega)]) xup2_s (fun i hi => by rw [xup2_r (by omega), xup2_r (by omega), xup2_r (by omega), xup2_r (by omega), xup2_n hi]) (by rw [xup2_r (by omega), xup2_r (by omega), xup2_r (by omega), xup2_r (by omega), xup2_s]) (fun i hi => ⟨?_, ?_, ?_⟩) ?_ ?_ ?_)
  · rw [xup2_r (by omega), xup2_r (by omega), xup2_r (by omega), xup2_n hi, xup2_r (by omega)]
  · rw [xup2_r (by omega), xup2_r (by omega), xup2_n hi, xup2_r (by omega), xup2_r (by omega)]
  · rw [xup2_r (by omega), xup2_n hi, xup2_r (by omega), xup2_r (by omega), xup2_r (by omega)]
  · rw [xup2_r (by omega), xup2_r (by omega), xup2_r (by omega), xup2_s]
  · rw [xup2_r (by omega), xup2_r (by omega), xup2_s]
  · rw [xup2_r (by omega), xup2_s]
theorem c_enterN (hU : UC g h w R L L' H) (hc : J w 9 = nI c) (hcc : c ≤ 100) (kk : Q none (xJ h J)) : ac g l mX7_enter [.ref R, .int (-1), .ref w] (xJ h J) Q := by
  refine ac_of (by decide) (Nat.le_of_ble_eq_true rfl) ?_
  have tw := hU.1.1.1
  refine sX7_enter_0 rfl ?_
  refine sX7_enter_1 rfl ?_
  refine jX7_enter_2 (Nat.le_of_ble_eq_true rfl) (by assumption) ?_
  refine c_has1 hU.1.1 hc hcc (fun j ej hj => absurd ej.symm (oI_neg (by omega))) (fun _ => ?_)
  exact sX7_enter_5 (fun _ => sX7_enter_75 kk) (fun z => absurd rfl z)
/-- the one on top is done -/
theorem c_leave {k n f : Nat} {W : List Vl} {v : Vl} (hU : UC g h w R L L' H) (hk : k < 100) (hn : n < 100) (h8 : J R 8 = nI (n + 1)) (h10 : J R 10 = nI f) (hf : f < 100) (hw : J (R + 1210) n = nI k) (hb : J (R + 1212) n = nI W.length) (hW : W.length < 6767) (hSW : SJ h J R W) (hv : f = 0 → SJ h J R (v :: W)) (kk : ∀ J', (∀ r, r ≠ R → r ≠ L + 2 → r ≠ L + 3 → (r < L + 4 + 6 * k ∨ L + 4 + 6 * k + 6 ≤ r) → J' r = J r) → J' R 8 = nI n → J' R 4 = nI W.length → J' R 10 = nI f → (∀ i, i ≠ k → J' (L + 2) i = J (L + 2) i ∧ J' (L + 3) i = J (L + 3) i) → J' (L + 2) k = nI f → J' (L + 3) k = nI 2 → (f = 0 → VJ J' (L + 4 + 6 * k) v ∧ vWf v) → Q none (xJ h J')) : ac g l mX7_leave [.ref R] (xJ h J) Q := by
  refine ac_of (by decide) (Nat.le_of_ble_eq_true rfl) ?_
  have hwR := hU.2.2.2.1
  have sh := hU.2.2.1
  obtain ⟨r1, ⟨p0, p1, p2, p3, p5, p6, p7⟩, ⟨u0, u1, u2⟩, -, ⟨t4, ⟨l0, l1, l2⟩, tv, tf, ts, hval⟩, -, lay⟩ := hU.2.1
  refine sX7_leave_0 rfl ?_
  refine jX7_leave_1 (by assumption) ?_
  rw [h8]
  refine nX7_leave_4 (by omega) (fun _ => ?_) (fun z => absurd z (by omega))
  refine sX7_leave_8 rfl ?_
  refine sX7_leave_9 rfl ?_
  refine jX7_leave_10 (by assumption) ?_
  rw [h8]
  refine nX7_leave_13 ?_
  refine nX7_leave_14 (by omega) ?_
  rw [show n + 1 - 1 = n by omega]
  refine jX7_leave_15 (by assumption) ?_
  refine sX7_leave_18 rfl ?_
  refine jX7_leave_19 (by assumption) (by assumption) ?_
  refine sX7_leave_22 rfl ?_
  refine jX7_leave_23 (by assumption) ?_
  rw [xup2_s]
  refine jX7_leave_26 (by assumption) (by omega) (by omega) ?_
  rw [xup2_r (by omega), hw]
  refine sX7_leave_27 ?_
  refine sX7_leave_28 rfl ?_
  refine sX7_leave_29 rfl ?_
  refine jX7_leave_30 (by assumption) (by assumption) ?_
  refine sX7_leave_33 rfl ?_
  refine jX7_leave_34 (by assumption) ?_
  rw [xup2_s]
  refine jX7_leave_37 (by assumption) (by omega) (by omega) ?_
  rw [xup2_r (by omega), hb]
  refine jX7_leave_38 (by assumption) ?_
  refine sX7_leave_41 rfl ?_
  refine jX7_leave_42 (by assumption) ?_
  rw [xup2_n (by decide), xup2_n (by decide), h10]
  obtain ⟨J1, hJ1⟩ : ∃ J1, J1 = xup2 (xup2 J R 8 (nI n)) R 4 (nI W.length) := ⟨_, rfl⟩
  rw [← hJ1]
  have r1' : ∀ r, r ≠ R → J1 r = J r := fun r hr => by rw [hJ1, xup2_r hr, xup2_r hr]
  have e8 : J1 R 8 = nI n := by rw [hJ1, xup2_n (by decide), xup2_s]
  have e4 : J1 R 4 = nI W.length := by rw [hJ1, xup2_s]
  have e10 : J1 R 10 = nI f := by rw [hJ1, xup2_n (by decide), xup2_n (by decide)]; exact h10
  have last : ∀ (J2 : Nat → Nat → Int32) (lv0 : List (Nat × Value)), (∀ r, r < L + 4 + 6 * k ∨ L + 4 + 6 * k + 6 ≤ r → J2 r = J1 r) → (f = 0 → VJ J2 (L + 4 + 6 * k) v ∧ vWf v) → (∀ z ∈ ([(0, .ref R), (1, .int (nI k))] : List (Nat × Value)), z ∈ lv0) → aw g l mX7_leave 68 lv0 [] (xJ h J2) Q := by
    intro J2 lv0 o2 v2 hlv
    refine aw_lv hlv ?_
    have eR : J2 R = J1 R := o2 R (by omega)
    refine sX7_leave_68 rfl ?_
    refine jX7_leave_69 (by assumption) (by assumption) ?_
    refine jX7_leave_72 (by assumption) (by assumption) ?_
    refine sX7_leave_75 rfl ?_
    refine sX7_leave_76 rfl ?_
    refine jX7_leave_77 (by assumption) ?_
    rw [eR, e10]
    refine jX7_leave_80 (by assumption) (by omega) (by omega) ?_
    refine sX7_leave_81 rfl ?_
    refine jX7_leave_82 (by assumption) (by assumption) ?_
    refine jX7_leave_85 (by assumption) (by assumption) ?_
    refine sX7_leave_88 rfl ?_
    refine nX7_leave_89 ?_
    refine jX7_leave_90 (by assumption) (by omega) (by omega) ?_
    refine sX7_leave_91 (kk _ (fun r a1 a2 a3 a4 => by rw [xup2_r a3, xup2_r a2, o2 r a4]; exact r1' r a1) (by rw [xup2_r (by omega), xup2_r (by omega), eR]; exact e8) (by rw [xup2_r (by omega), xup2_r (by omega), eR]; exact e4) (by rw [xup2_r (by omega), xup2_r (by omega), eR]; exact e10) (fun i hi => ⟨?_, ?_⟩) ?_ xup2_s (fun z => ⟨VJ_c (fun r a1 a2 => by rw [xup2_r (by omega), xup2_r (by omega)]) (v2 z).1, (v2 z).2⟩))
    · rw [xup2_r (by omega), xup2_n hi, o2 _ (by omega), r1' _ (by omega)]
    · rw [xup2_n hi, xup2_r (by omega), o2 _ (by omega), r1' _ (by omega)]
    · rw [xup2_r (by omega), xup2_s]
  by_cases z : f = 0
  · have hs := hv z
    obtain ⟨⟨q, hq, vq, wq⟩, -⟩ := id hs
    obtain ⟨sq1, sq2, sq3, sq4⟩ := sh.2.2.2.1 _ _ hW hq
    have hRH := sh.2.1
    refine nX7_leave_45 (by omega) (fun y => absurd z y) (fun _ => ?_)
    obtain ⟨hp, hcv⟩ := hval k hk
    refine sX7_leave_48 rfl ?_
    refine jX7_leave_49 (by assumption) (by assumption) ?_
    refine jX7_leave_52 (by assumption) (by assumption) ?_
    refine sX7_leave_55 rfl ?_
    refine sX7_leave_56 (by show (xT h _).1 = 103; rw [tv]) (by show vp_in _ (xT h _).2; rw [tv]; exact vp_in_nI hk (by decide)) (by show xP h _ _ = _; rw [nI_clamp (by omega)]; exact hp) ?_
    refine sX7_leave_57 rfl ?_
    refine sX7_leave_58 rfl ?_
    refine jX7_leave_59 (by assumption) ?_
    rw [e4]
    refine jX7_leave_62 (Nat.le_of_ble_eq_true rfl) (by assumption) ?_
    refine c_slotS sh r1 p3 hW hq ?_
    have tq := hcv.1
    show aw g l mX7_leave 65 _ (.ref q :: .ref (L + 4 + 6 * k) :: []) (xJ h J1) Q
    refine jX7_leave_65 (Nat.le_of_ble_eq_true rfl) (by assumption) ?_
    refine c_copy9 hcv sq3 (by omega) (VJ_c (fun r a1 a2 => r1' r (by omega)) vq) (fun J2 o2 v2 => ?_)
    exact last J2 _ o2 (fun _ => ⟨v2, wq⟩) (fun z hz => by simp only [List.mem_cons, List.not_mem_nil, or_false] at hz; rcases hz with rfl | rfl <;> exact xlk_mem rfl)
  · refine nX7_leave_45 (by omega) (fun _ => ?_) (fun y => absurd y z)
    exact last J1 _ (fun _ _ => rfl) (fun y => absurd y z) (fun z hz => by simp only [List.mem_cons, List.not_mem_nil, or_false] at hz; rcases hz with rfl | rfl <;> exact xlk_mem rfl)
end Settle3
