/-! ===== both sides together ===== -/
def nm7 (c : Nat) (D : Nat → Df) : Prop := ∀ k, k < c → ∀ i, i < fln D k → fnm D k i < 128
theorem cA_lt {v : Nat} (h : cA v = true) : v < 128 := by
  unfold cA cL cD at h
  simp at h
  omega
theorem LO_nm7 {C : Nat → Nat} {m a c c1 : Nat} {D D1 : Nat → Df} (hn : nm7 c D) (h : LO C m a c D c1 D1) : nm7 c1 D1 := by
  rcases h with ⟨-, e1, e2⟩ | ⟨k2, L, e, -, -, -, -, e1, e2⟩
  · rw [e1, e2]; exact hn
  · subst e1
    intro k hk i hi
    rcases Nat.lt_or_eq_of_le (Nat.le_of_lt_succ hk) with z | z
    · have hp : D1 k = D k := by rw [e2]; exact vup_n (by omega)
      rw [(f_c hp).2.1] at hi
      rw [(f_c hp).2.2.2.1]
      exact hn k z i hi
    · subst z
      obtain ⟨-, r2, -, r4, -⟩ := rec_f e2
      obtain ⟨n1, n2, n3, n4⟩ := kN k2
      rw [r2] at hi
      rw [r4]
      exact cA_lt (rnd_all (m := m) (q := a) (by omega) (by omega))
theorem RF_nm7 {T : Nat → Nat} {fr to : Nat} : ∀ {n s c : Nat} {D : Nat → Df} {res : Option (Nat × Nat)} {c' : Nat} {D' : Nat → Df}, nm7 c D → RF T fr to n s c D res c' D' → nm7 c' D'
  | 0, s, c, D, res, c', D', hn, ⟨_, _, e1, e2⟩ => by rw [e1, e2]; exact hn
  | n + 1, s, c, D, res, c', D', hn, ⟨_, h⟩ => by
    rcases h with ⟨f, p, -, -, e1, e2⟩ | ⟨c1, D1, h1, h2⟩
    · rw [e1, e2]; exact hn
    · exact RF_nm7 (LO_nm7 hn h1) h2
theorem E_pz {B c : Nat} {D : Nat → Df} {E : Nat → Option (Nat × Vl)} (hD : DB c D) (hK : KN B c D E) : ∀ k, k < c → ∀ r, E k = some r → pz (nb (fso D) c) r.2 := fun k hk r e => by
  obtain ⟨r', e', -, f, ef⟩ := hK k hk
  have : r' = r := Option.some.inj (e'.symm.trans e)
  subst this
  refine dn_pz (dM_ok c D) (fun j hj z => ?_) f k hk r' ef
  have h1 := nb_mono (fso D) (show j + 1 ≤ c by omega)
  have h2 : nb (fso D) (j + 1) = nb (fso D) j + (if fso D j = 0 then 1 else 0) := rfl
  rw [if_pos z] at h2
  rw [hD.2.2.2.2.1 j hj]
  omega
theorem pz_up {n n' : Nat} {V : Vl} (h : pz n V) (hn : n ≤ n') : pz n' V := fun j h1 h2 => h j (by omega) h2
theorem pz_lp (n : Nat) (V : Vl) : pz n (lp n V) := fun j h1 h2 => by
  show (if n ≤ j ∧ j < 8 then (0 : Int32) else _) = 0
  rw [if_pos ⟨h1, h2⟩]
theorem lp_id {n : Nat} {V : Vl} (h : pz n V) : lp n V = V := by
  obtain ⟨a, b, c, d⟩ := V
  show (a, b, c, fun j => if n ≤ j ∧ j < 8 then (0 : Int32) else d j) = (a, b, c, d)
  have : (fun j => if n ≤ j ∧ j < 8 then (0 : Int32) else d j) = d := by
    funext j
    by_cases z : n ≤ j ∧ j < 8
    · rw [if_pos z]; exact (h j z.1 z.2).symm
    · rw [if_neg z]
  rw [this]
theorem CLd_f {h : xH} {x L : Nat} (hL : L = x + 32 + 1 ∨ L = x + 32 + 605) (h1 : CLd (fxT h x) L) : CLd h L := CLd_e (h := fxT h x) (h' := h) (fun _ _ _ => rfl) (fun a a1 a2 => (fxT_P (by omega)).symm) h1
theorem CN_f {h : xH} {x a c : Nat} (ha : a ≠ x + 2 + 14) (h1 : CN (fxT h x) a c) : CN h a c := by
  obtain ⟨a1, a2, a3⟩ := h1
  rw [fxT_P ha] at a2
  exact ⟨a1, a2, a3⟩
theorem CR_f {h : xH} {x L L' : Nat} (h1 : CR (fxT h x) (x + 32) L L') : CR h (x + 32) L L' := by
  obtain ⟨a1, a2, a3, ⟨b1, b2, ⟨b3, b4, b5, b6, b7⟩, b8⟩, a5, a6, a7⟩ := h1
  rw [fxT_P (by omega)] at a2 b2
  exact ⟨a1, a2, a3, ⟨b1, b2, ⟨CN_f (by omega) b3, CN_f (by omega) b4, CN_f (by omega) b5, CN_f (by omega) b6, CN_f (by omega) b7⟩, b8⟩, CLd_f (by omega) a5, CLd_f (by omega) a6, a7⟩
section Keep
variable {g : xG} {h : xH} {J J' : Nat → Nat → Int32} {x L L' H B c ts fl gv : Nat} {D : Nat → Df} {T tp : Nat → Nat} {E : Nat → Option (Nat × Vl)} {V : Vl} {b : Nat} {K K' : Nat → Nat → Int32}
theorem CI_c (o : ∀ r, r < x + 20 ∨ x + 26 ≤ r → r < x + 1254 ∨ x + 1282 ≤ r → J' r = J r) (hI : CI g h J x L L' H B c D T E ts tp V fl gv) : CI g h J' x L L' H B c D T E ts tp V fl gv := by
  obtain ⟨hS, hptr, ⟨b0, b1, B16, B512⟩, hten, ⟨e2, ts4, htp⟩, hD, hB, hE, ⟨hV, wV⟩, e8, e10⟩ := hI
  obtain ⟨gx, hxH, hHh, hW, hQ, hCR, lay⟩ := CS_x hS
  have hc := hD.1
  exact ⟨hS, hptr, ⟨by rw [o x (by omega) (by omega)]; exact b0, by rw [o _ (by omega) (by omega)]; exact b1, B16, B512⟩, fun i hi => by rw [o _ (by omega) (by omega)]; exact hten i hi, ⟨by rw [o x (by omega) (by omega)]; exact e2, ts4, fun i hi => by rw [o _ (by omega) (by omega)]; exact htp i hi⟩, hD, WB_x (fun r a1 a2 _ => o r (by omega) (by omega)) (by rw [o _ (by omega) (by omega)]) (by rw [o _ (by omega) (by omega)]) hB, LE_c hc (fun r a1 a2 => o r (by omega) (by omega)) hE, ⟨VJ_c (fun r a1 a2 => o r (by omega) (by omega)) hV, wV⟩, by rw [o x (by omega) (by omega)]; exact e8, by rw [o x (by omega) (by omega)]; exact e10⟩
theorem CI_t {ts' : Nat} {tp' : Nat → Nat} (o : ∀ r, r ≠ x → r ≠ x + 1 → J' r = J r) (ox : ∀ j, j ≠ 2 → J' x j = J x j) (o2 : J' x 2 = nI ts') (h4 : ts' ≤ 4000) (ht : ∀ i, i < ts' → J' (x + 1) i = sb (tp' i) ∧ tp' i < 256) (hI : CI g h J x L L' H B c D T E ts tp V fl gv) : CI g h J' x L L' H B c D T E ts' tp' V fl gv := by
  obtain ⟨hS, hptr, ⟨b0, b1, B16, B512⟩, hten, ⟨e2, ts4, htp⟩, hD, hB, hE, ⟨hV, wV⟩, e8, e10⟩ := hI
  obtain ⟨gx, hxH, hHh, hW, hQ, hCR, lay⟩ := CS_x hS
  have hc := hD.1
  exact ⟨hS, hptr, ⟨by rw [ox 0 (by omega)]; exact b0, by rw [o _ (by omega) (by omega)]; exact b1, B16, B512⟩, fun i hi => by rw [o _ (by omega) (by omega)]; exact hten i hi, ⟨o2, h4, ht⟩, hD, WB_x (fun r a1 a2 _ => o r (by omega) (by omega)) (by rw [o _ (by omega) (by omega)]) (by rw [o _ (by omega) (by omega)]) hB, LE_c hc (fun r a1 a2 => o r (by omega) (by omega)) hE, ⟨VJ_c (fun r a1 a2 => o r (by omega) (by omega)) hV, wV⟩, by rw [ox 8 (by omega)]; exact e8, by rw [ox 10 (by omega)]; exact e10⟩
theorem RI_c (o : ∀ r, r < 24 → K' r = K r) (hI : RI h b K B c D E ts tp V fl gv) : RI h b K' B c D E ts tp V fl gv := by
  obtain ⟨i1, i2, ⟨N, S, ⟨rn, rx⟩, s67, rk⟩, i4, i5, i6, i7, i8, i9⟩ := hI
  have z0 := o 0 (by decide)
  refine ⟨i1, by rw [z0]; exact i2, ⟨N, S, ⟨fun n hn => ?_, fun w hw => ?_⟩, s67, fun k hk => ?_⟩, ⟨by rw [z0]; exact i4.1, fun i hi => by rw [o 4 (by decide)]; exact i4.2 i hi⟩, by rw [z0]; exact i5, RB_x (fun r _ a2 => o r (by omega)) i6, by rw [z0]; exact i7, by rw [z0]; exact i8, by rw [z0]; exact i9⟩
  · rw [o 1 (by decide)]; exact rn n hn
  · rw [o 2 (by decide), o 3 (by decide)]; exact rx w hw
  · rw [o 12 (by decide), o 13 (by decide)]; exact rk k hk
theorem RI_t {ts' : Nat} {tp' : Nat → Nat} (o : ∀ r, r ≠ 0 → r ≠ 4 → K' r = K r) (ox : ∀ j, j ≠ 5 → K' 0 j = K 0 j) (o5 : K' 0 5 = nI ts') (ht : ∀ i, i < ts' → K' 4 i = nI (tp' i)) (hI : RI h b K B c D E ts tp V fl gv) : RI h b K' B c D E ts' tp' V fl gv := by
  obtain ⟨i1, i2, ⟨N, S, ⟨rn, rx⟩, s67, rk⟩, i4, i5, i6, i7, i8, i9⟩ := hI
  refine ⟨i1, by rw [ox 0 (by decide)]; exact i2, ⟨N, S, ⟨fun n hn => ?_, fun w hw => ?_⟩, s67, fun k hk => ?_⟩, ⟨o5, ht⟩, by rw [ox 6 (by decide)]; exact i5, RB_x (fun r a1 a2 => o r (by omega) (by omega)) i6, by rw [ox 14 (by decide)]; exact i7, by rw [ox 18 (by decide)]; exact i8, by rw [ox 19 (by decide)]; exact i9⟩
  · rw [o 1 (by decide) (by decide)]; exact rn n hn
  · rw [o 2 (by decide) (by decide), o 3 (by decide) (by decide)]; exact rx w hw
  · rw [o 12 (by decide) (by decide), o 13 (by decide) (by decide)]; exact rk k hk
end Keep
/-- both sides at rest -/
def JI (g : xG) (h : xH) (J : Nat → Nat → Int32) (x n L L' B c : Nat) (D : Nat → Df) (T : Nat → Nat) (E : Nat → Option (Nat × Vl)) (ts : Nat) (tp : Nat → Nat) (V : Vl) (fl gv : Nat) : Prop := CI g h J x L L' (x + 1282) B c D T E ts tp V fl gv ∧ RI h (x + 1258) (fun j i => J (x + 1258 + j) i) B c D E ts tp V fl gv ∧ KN B c D E ∧ pz (nb (fso D) c) V ∧ eO (fte D) c + ts ≤ 20 * n ∧ nm7 c D
/-- the script at s0 -/
def SC (x s0 len : Nat) (xs : Nat → Int32) (H : xH) : Prop := (xT H s0 = (104, len) ∧ xI H s0 = xs) ∧ (xT H (x + 1258)).1 = 11
def LI (g : xG) (x s0 len : Nat) (xs : Nat → Int32) (n : Nat) (H : xH) : Prop := ∃ h J, H = xJ h J ∧ SC x s0 len xs H ∧ s0 < x ∧ ∃ L L' B c D T E ts tp V fl gv, JI g h J x n L L' B c D T E ts tp V fl gv
section Joint
variable {g : xG} {l : Launch} {h h' : xH} {J J' : Nat → Nat → Int32} {x L L' B c ts fl gv n s0 len : Nat} {D : Nat → Df} {T tp : Nat → Nat} {E : Nat → Option (Nat × Vl)} {V : Vl} {K : Nat → Nat → Int32} {xs : Nat → Int32} {Q : Option Value → xH → Prop} {M : xM} {av : List Value}
theorem rfB {b : Nat} (k : ac g l M av (xB (xJ h J) b (fun j i => J (b + j) i)) Q) : ac g l M av (xJ h J) Q := by
  have e := xB_id (xJ h J) b
  have e' : xB (xJ h J) b (fun j i => J (b + j) i) = xJ h J := e
  rw [e'] at k
  exact k
theorem RI_J (hI : RI h (x + 1258) K B c D E ts tp V fl gv) : RI (xJ h J) (x + 1258) K B c D E ts tp V fl gv := hI
/-- the reference's state over what the class does -/
theorem RI_m (hf : HF x h h') (jf : JF x (x + 1282) J J') (hb : x + 1282 ≤ h.1) (hI : RI h (x + 1258) (fun j i => J (x + 1258 + j) i) B c D E ts tp V fl gv) : RI (xJ h' J') (x + 1258) (fun j i => J' (x + 1258 + j) i) B c D E ts tp V fl gv := by
  obtain ⟨⟨r1, r2, r3⟩, i⟩ := hI
  have rs : RS (xJ h' J') (x + 1258) := ⟨by show xT h' _ = _; rw [hf.2.1 _ (by omega)]; exact r1, fun k => by show xP h' _ k = _; rw [hf.2.2 _ (by omega) (by omega) (by omega) (by omega)]; exact r2 k, fun j j0 j1 => by show xT h' _ = _; rw [hf.2.1 _ (by omega)]; exact r3 j j0 j1⟩
  refine RI_c (K := fun j i => J (x + 1258 + j) i) (fun r hr => ?_) ⟨rs, i⟩
  funext i
  show J' (x + 1258 + r) i = J (x + 1258 + r) i
  rw [jf _ (by omega)]
theorem SC_m (hf : HF x h h') (jf : JF x (x + 1282) J J') (hb : x + 1282 ≤ h.1) (hs : s0 < x) (sc : SC x s0 len xs (xJ h J)) : SC x s0 len xs (xJ h' J') := by
  obtain ⟨⟨a1, a2⟩, a3⟩ := sc
  have a1' : xT h s0 = (104, len) := a1
  have a2' : J s0 = xs := a2
  have a3' : (xT h (x + 1258)).1 = 11 := a3
  exact ⟨⟨by show xT h' s0 = _; rw [hf.2.1 _ (by omega)]; exact a1', by show J' s0 = _; rw [jf _ (by omega)]; exact a2'⟩, by show (xT h' _).1 = _; rw [hf.2.1 _ (by omega)]; exact a3'⟩
/-- at rest again -/
theorem LI_e (sc : SC x s0 len xs (xJ h J)) (hs : s0 < x) (hI : CI g h J x L L' (x + 1282) B c D T E ts tp V fl gv) (hR : RI (xJ h J) (x + 1258) K B c D E ts tp V fl gv) (hK : KN B c D E) (hp : pz (nb (fso D) c) V) (hn : eO (fte D) c + ts ≤ 20 * (n + 1)) (h7 : nm7 c D) : LI g x s0 len xs (n + 1) (xB (xJ h J) (x + 1258) K) := by
  obtain ⟨⟨a1, a2⟩, a3⟩ := sc
  refine ⟨h, (fun a i => if x + 1258 ≤ a ∧ a < x + 1258 + 24 then K (a - (x + 1258)) i else J a i), rfl, ⟨⟨a1, ?_⟩, a3⟩, hs, L, L', B, c, D, T, E, ts, tp, V, fl, gv, CI_c (fun r r1 r2 => ?_) hI, RI_c (fun r hr => ?_) hR, hK, hp, hn, h7⟩
  · have a2' : J s0 = xs := a2
    rw [← a2']
    funext i
    show (if x + 1258 ≤ s0 ∧ s0 < x + 1258 + 24 then _ else J s0 i) = J s0 i
    rw [if_neg (by omega)]
  · funext i
    show (if x + 1258 ≤ r ∧ r < x + 1258 + 24 then _ else J r i) = J r i
    rw [if_neg (by omega)]
  · funext i
    show (if x + 1258 ≤ x + 1258 + r ∧ x + 1258 + r < x + 1258 + 24 then K (x + 1258 + r - (x + 1258)) i else J (x + 1258 + r) i) = K r i
    rw [if_pos (by omega), Nat.add_sub_cancel_left]
/-- nothing was changed -/
theorem LI_s (hI : LI g x s0 len xs n (xJ h J)) : LI g x s0 len xs (n + 1) (xB (xJ h J) (x + 1258) (fun j i => J (x + 1258 + j) i)) := by
  have e' : xB (xJ h J) (x + 1258) (fun j i => J (x + 1258 + j) i) = xJ h J := xB_id (xJ h J) (x + 1258)
  rw [e']
  obtain ⟨h', J', e, sc, hs, L, L', B, c, D, T, E, ts, tp, V, fl, gv, a1, a2, a3, a4, a5, a6⟩ := hI
  exact ⟨h', J', e, sc, hs, L, L', B, c, D, T, E, ts, tp, V, fl, gv, a1, a2, a3, a4, by omega, a6⟩
end Joint
/-- what the law asks of a call -/
def bo (g : xG) (l : Launch) (x s0 len : Nat) (xs : Nat → Int32) (n : Nat) (mA mB : xM) (as : List Value) (H : xH) : Prop := ac g l mA (.ref x :: as) H (fun r h1 => ∃ v, r = some (.int v) ∧ SC x s0 len xs h1 ∧ ac g l mB (.ref (x + 1258) :: as) h1 (fun r2 h2 => r2 = some (.int v) ∧ LI g x s0 len xs (n + 1) h2))
section Steps1
variable {g : xG} {l : Launch} {h : xH} {J : Nat → Nat → Int32} {x n s0 len : Nat} {xs : Nat → Int32}
theorem bo_fault (hL : LI g x s0 len xs n (xJ h J)) : bo g l x s0 len xs n mX10_fault mX11_fault [] (xJ h J) := by
  have hL0 := hL
  obtain ⟨h', J', e, sc, hs, L, L', B, c, D, T, E, ts, tp, V, fl, gv, hI, hR, hK, hp, hn, h7⟩ := hL
  rw [e] at hL0 ⊢
  have e8 := hI.2.2.2.2.2.2.2.2.2.1
  refine c_fault10 hI.1.1 ⟨nI fl, by rw [e8], by rw [← e]; exact sc, ?_⟩
  refine rfB (c_fault11 hR.1 ⟨?_, LI_s hL0⟩)
  have e18 : J' (x + 1258 + 0) 18 = nI fl := hR.2.2.2.2.2.2.2.1
  rw [e18]
theorem bo_sign (hL : LI g x s0 len xs n (xJ h J)) : bo g l x s0 len xs n mX10_sign mX11_sign [] (xJ h J) := by
  have hL0 := hL
  obtain ⟨h', J', e, sc, hs, L, L', B, c, D, T, E, ts, tp, V, fl, gv, hI, hR, hK, hp, hn, h7⟩ := hL
  rw [e] at hL0 ⊢
  have hV := hI.2.2.2.2.2.2.2.2.1.1
  refine c_sign10 hI.1.1 hI.1.2.2.1 ⟨V.1, by rw [hV.1], by rw [← e]; exact sc, ?_⟩
  refine rfB (c_sign11 hR.1 ⟨?_, LI_s hL0⟩)
  obtain ⟨-, -, ⟨N, S, ⟨-, rx⟩, s67, -⟩, -⟩ := hR
  have := (rx 67 (by decide)).2.2.1
  rw [s67] at this
  exact congrArg (fun z => some (Value.int z)) this
theorem bo_told {a : Int32} (hL : LI g x s0 len xs n (xJ h J)) : bo g l x s0 len xs n mX10_told mX11_told [.int a] (xJ h J) := by
  have hL0 := hL
  obtain ⟨h', J', e, sc, hs, L, L', B, c, D, T, E, ts, tp, V, fl, gv, hI, hR, hK, hp, hn, h7⟩ := hL
  rw [e] at hL0 ⊢
  obtain ⟨hS, hptr, ⟨b0, b1, B16, B512⟩, hten, ⟨e2, ts4, htp⟩, hD, hB, hE, ⟨hV, wV⟩, e8, e10⟩ := hI
  obtain ⟨gx, hxH, hHh, hW, hQ, hCR, lay⟩ := CS_x hS
  obtain ⟨r1, r2, r3, r4, r5, r6, r7, r8, r9⟩ := hR
  refine c_told10 hS.1 hW ⟨_, rfl, by rw [← e]; exact sc, ?_⟩
  refine rfB (c_told11 (so := fso D) r1 r5 hD.1 (fun k hk => ⟨(r6 k hk).1, (hD.2.1 k hk).1⟩) ⟨?_, LI_s hL0⟩)
  have r41 : J' (x + 1258 + 0) 5 = nI ts := r4.1
  have r21 : J' (x + 1258 + 0) 0 = nI B := r2
  have r91 : J' (x + 1258 + 0) 19 = nI gv := r9
  rw [e2, hB.2.1, hB.2.2.1, b0, e10, r41, r21, r91]
theorem bo_sort {a : Int32} (hL : LI g x s0 len xs n (xJ h J)) : bo g l x s0 len xs n mX10_sort mX11_sort [.int a] (xJ h J) := by
  have hL0 := hL
  obtain ⟨h', J', e, sc, hs, L, L', B, c, D, T, E, ts, tp, V, fl, gv, hI, hR, hK, hp, hn, h7⟩ := hL
  rw [e] at hL0 ⊢
  obtain ⟨hS, hptr, ⟨b0, b1, B16, B512⟩, hten, ⟨e2, ts4, htp⟩, hD, hB, hE, ⟨hV, wV⟩, e8, e10⟩ := hI
  obtain ⟨gx, hxH, hHh, hW, hQ, hCR, lay⟩ := CS_x hS
  obtain ⟨r1, r2, r3, r4, r5, r6, r7, r8, r9⟩ := hR
  rw [e] at sc
  refine c_sort10 hS.1 hW hB.2.1 hD.1 (fun j ej hj => ⟨nI (fso D j), ?_, sc, ?_⟩) (fun z => ⟨-1, rfl, sc, ?_⟩)
  · rw [show J' (x + 8) j = nI (fso D j) from (hB.2.2.2 j hj).1]
  · refine rfB (c_sort11 r1 r5 hD.1 (fun j2 ej2 hj2 => ⟨?_, LI_s hL0⟩) (fun z => absurd ej (z j hj)))
    have : j2 = j := (nI_eq (by have := hD.1; omega) (by have := hD.1; omega)).mp (ej2.symm.trans ej)
    subst this
    rw [show J' (x + 1258 + 5) j2 = nI (fso D j2) from (r6 j2 hj2).1]
  · exact rfB (c_sort11 r1 r5 hD.1 (fun j2 ej2 hj2 => absurd ej2 (z j2 hj2)) (fun z => ⟨rfl, LI_s hL0⟩))
theorem bo_faultOf {a : Int32} (hL : LI g x s0 len xs n (xJ h J)) : bo g l x s0 len xs n mX10_faultOf mX11_faultOf [.int a] (xJ h J) := by
  have hL0 := hL
  obtain ⟨h', J', e, sc, hs, L, L', B, c, D, T, E, ts, tp, V, fl, gv, hI, hR, hK, hp, hn, h7⟩ := hL
  rw [e] at hL0 ⊢
  obtain ⟨hS, hptr, ⟨b0, b1, B16, B512⟩, hten, ⟨e2, ts4, htp⟩, hD, hB, hE, ⟨hV, wV⟩, e8, e10⟩ := hI
  obtain ⟨gx, hxH, hHh, hW, hQ, hCR, lay⟩ := CS_x hS
  obtain ⟨r1, r2, ⟨N, S, rx, s67, rk⟩, r4, r5, r6, r7, r8, r9⟩ := hR
  rw [e] at sc
  refine c_faultOf10 hS.1 hW (CR_f hCR) hB.2.1 hD.1 (fun j ej hj => ?_) (fun z => ⟨-1, rfl, sc, ?_⟩)
  · obtain ⟨r, er, r4n, -⟩ := hK j hj
    have ej1 : J' (L + 2) j = nI r.1 := by
      rcases ((hE j hj).2 r er).2 with ⟨-, z⟩ | ⟨-, z, -⟩
      · exact absurd z r4n
      · exact z
    refine ⟨nI r.1, by rw [ej1], sc, ?_⟩
    refine rfB (c_faultOf11 r1 r5 hD.1 (fun j2 ej2 hj2 => ⟨?_, LI_s hL0⟩) (fun z => absurd ej (z j hj)))
    have : j2 = j := (nI_eq (by have := hD.1; omega) (by have := hD.1; omega)).mp (ej2.symm.trans ej)
    subst this
    obtain ⟨r', er', k12, -⟩ := rk j2 hj2
    have : r' = r := Option.some.inj (er'.symm.trans er)
    rw [show J' (x + 1258 + 12) j2 = nI r'.1 from k12, this]
  · exact rfB (c_faultOf11 r1 r5 hD.1 (fun j2 ej2 hj2 => absurd ej2 (z j2 hj2)) (fun z => ⟨rfl, LI_s hL0⟩))
theorem bo_name {a d : Int32} (hL : LI g x s0 len xs n (xJ h J)) : bo g l x s0 len xs n mX10_name mX11_name [.int a, .int d] (xJ h J) := by
  have hL0 := hL
  obtain ⟨h', J', e, sc, hs, L, L', B, c, D, T, E, ts, tp, V, fl, gv, hI, hR, hK, hp, hn, h7⟩ := hL
  rw [e] at hL0 ⊢
  obtain ⟨hS, hptr, ⟨b0, b1, B16, B512⟩, hten, ⟨e2, ts4, htp⟩, hD, hB, hE, ⟨hV, wV⟩, e8, e10⟩ := hI
  obtain ⟨gx, hxH, hHh, hW, hQ, hCR, lay⟩ := CS_x hS
  obtain ⟨r1, r2, ⟨N, S, rx, s67, rk⟩, r4, r5, r6, r7, r8, r9⟩ := hR
  rw [e] at sc
  have hc := hD.1
  have wd := WB_D hD hB
  refine c_name10 hS.1 hW wd.1 wd.2.1 (fun j q ej hj eq hq => ⟨nI (fnm D j q), by rw [sb_small (h7 j hj q hq)], sc, ?_⟩) (fun z => ⟨-1, rfl, sc, ?_⟩)
  · refine rfB (c_name11 r1 r5 hD.1 (RB_M hD r6) (fun j2 q2 ej2 hj2 eq2 hq2 => ⟨?_, LI_s hL0⟩) (fun z => absurd ⟨ej, eq⟩ (z j q hj hq)))
    have : j2 = j := (nI_eq (by omega) (by omega)).mp (ej2.symm.trans ej)
    subst this
    have l24 := (hD.2.1 j2 hj2).2.1.2
    have : q2 = q := (nI_eq (by omega) (by omega)).mp (eq2.symm.trans eq)
    rw [this]
  · exact rfB (c_name11 r1 r5 hD.1 (RB_M hD r6) (fun j2 q2 ej2 hj2 eq2 hq2 => absurd ⟨ej2, eq2⟩ (z j2 q2 hj2 hq2)) (fun z => ⟨rfl, LI_s hL0⟩))
theorem bo_power {a : Int32} (hL : LI g x s0 len xs n (xJ h J)) : bo g l x s0 len xs n mX10_power mX11_power [.int a] (xJ h J) := by
  have hL0 := hL
  obtain ⟨h', J', e, sc, hs, L, L', B, c, D, T, E, ts, tp, V, fl, gv, hI, hR, hK, hp, hn, h7⟩ := hL
  rw [e] at hL0 ⊢
  obtain ⟨hS, hptr, ⟨b0, b1, B16, B512⟩, hten, ⟨e2, ts4, htp⟩, hD, hB, hE, ⟨hV, wV⟩, e8, e10⟩ := hI
  rw [e] at sc
  have hnb := hD.2.2.2.1
  refine c_power10 hS.1 hS.2.2.1 hV (fun j ej hj => ⟨V.2.2.2 j, rfl, sc, ?_⟩) (fun z => ⟨0, rfl, sc, ?_⟩)
  · refine rfB (c_power11 hR hD (fun j2 ej2 hj2 => ⟨?_, LI_s hL0⟩) (fun z => ⟨?_, LI_s hL0⟩))
    · have : j2 = j := (nI_eq (by omega) (by omega)).mp (ej2.symm.trans ej)
      rw [this]
    · have : V.2.2.2 j = 0 := hp j (Nat.not_lt.mp (fun w => z j w ej)) hj
      rw [this]
  · refine rfB (c_power11 hR hD (fun j2 ej2 hj2 => absurd ej2 (z j2 (by omega))) (fun z => ⟨rfl, LI_s hL0⟩))
theorem bo_alike {a : Int32} (hL : LI g x s0 len xs n (xJ h J)) : bo g l x s0 len xs n mX10_alike mX11_alike [.int a] (xJ h J) := by
  have hL0 := hL
  obtain ⟨h', J', e, sc, hs, L, L', B, c, D, T, E, ts, tp, V, fl, gv, hI, hR, hK, hp, hn, h7⟩ := hL
  rw [e] at hL0 ⊢
  have hD := hI.2.2.2.2.2.1
  have hc := hD.1
  rw [e] at sc
  refine c_alike10 hI hK (fun z => ⟨-1, rfl, sc, ?_⟩) (fun k hk hak ek => ⟨nI k, rfl, sc, ?_⟩)
  · exact rfB (c_alike11 hR hD (fun _ => ⟨rfl, LI_s hL0⟩) (fun k hk hak ek => absurd ek (z k hk hak)))
  · refine rfB (c_alike11 hR hD (fun z => absurd ek (z k hk hak)) (fun k2 hk2 hak2 ek2 => ⟨?_, LI_s hL0⟩))
    have b1 := ct_le (alk D E V) k
    have b2 := ct_le (alk D E V) k2
    have : ct (alk D E V) k2 = ct (alk D E V) k := (nI_eq (by omega) (by omega)).mp (ek2.symm.trans ek)
    rw [ct_un hak2 hak this]
end Steps1
