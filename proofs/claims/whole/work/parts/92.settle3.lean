theorem sg_drop {J : Nat → Nat → Int32} {w : Nat} : ∀ {A B : List St} {k : Nat}, sg J w k (A ++ B) → sg J w (k + A.length) B
  | [], B, k, z => z
  | y :: A, B, k, z => by
    have := sg_drop (A := A) z.2
    rw [show k + 1 + A.length = k + (A.length + 1) by omega] at this
    exact this
section Settle4
variable {g : xG} {l : Launch} {h : xH} {J : Nat → Nat → Int32} {Q : Option Value → xH → Prop} {R L L' c w H B : Nat} {so ln np bn cs : Nat → Nat} {nm : Nat → Nat → Nat} {T : Nat → Nat} {Lk : Nat → List St} {Ck : Nat → Nat → Nat} {mk lo : Nat → Nat}
theorem c_settle {mg : Nat → Nat → Nat → Option Nat × Option Nat} {bv : Nat → Vl} (hmg : ∀ k, mg k = mng so ln nm c (Ck k)) (hbv : bv = bvO bn) (hU : UC g h w R L L' H) (hD : WD J w c so ln np nm T bn cs Lk Ck mk lo) (hCT : CT g h J) (hB : J (R + 1213) 0 = nI B) (hB0 : 16 ≤ B) (hB2 : B ≤ 512)
    (kA : ∀ h' J' E, hZ R h h' → UC g h' w R L' L H → fV w R H L' J J' → LE J' L' E c → (∀ k, k < c → ∃ r, E k = some r ∧ r.1 ≠ 4 ∧ ∃ f, dn B c so bv Lk Ck mk mg f k = some r) → Q (some (.int (-1))) (xJ h' J'))
    (kB : ∀ h' J' j, hZ R h h' → UC g h' w R L L' H → fV w R H L' J J' → j < c → ¬ fin B c so bv Lk Ck mk mg j → (∀ i, i < j → fin B c so bv Lk Ck mk mg i) → Q (some (.int (nI j))) (xJ h' J')) : ac g l mX7_settle [.ref R, .ref w] (xJ h J) Q := by
  refine ac_of (by decide) (Nat.le_of_ble_eq_true rfl) ?_
  have hc : c ≤ 100 := hD.2.1.2.1
  have hwR := hU.2.2.2.1
  have hm : ∀ k, mgOk c (mg k) := fun k a n => by rw [hmg]; exact mng_lt
  have lay := hU.2.1.2.2.2.2.2.2
  have hRH := hU.2.2.1.2.1
  have htn := hU.2.2.2.2.2.1
  have t7 := hU.2.1.1
  have u0 := UC_w hU
  generalize hh0 : swp h R L L' = h0 at u0
  have z0 : hZ R h h0 := by rw [← hh0]; exact hZ_s
  have hRL' : R < L' := by omega
  -- rows later on
  have ctx : ∀ J1 : Nat → Nat → Int32, fV w R H L' J J1 → WD J1 w c so ln np nm T bn cs Lk Ck mk lo ∧ (∀ h1 : xH, UC g h1 w R L' L H → CT g h1 J1) ∧ J1 (R + 1213) 0 = nI B ∧ J1 w 9 = nI c := by
    intro J1 f
    have rr : ∀ r, r < R → r ≠ w → J1 r = J r := fun r a1 a2 => f.1 r (by omega) (by omega) a2 (by omega) (by omega)
    exact ⟨WD_c (fun r a1 a2 _ => rr r (by omega) (by omega)) (f.2.1 9 (by decide) (by decide)) hD, fun h1 u1 => ⟨u1.2.2.2.2.2.2, fun i hi => by rw [rr _ (by omega) (by omega)]; exact hCT.2 i hi⟩, f.2.2.trans hB, (f.2.1 9 (by decide) (by decide)).trans hD.2.1.1⟩
  -- the end: who is endless
  have done : ∀ (E : Nat → Option (Nat × Vl)) (h1 : xH) (J1 : Nat → Nat → Int32) (lv0 : List (Nat × Value)), hX R h0 h1 → SH h1 R H → fV w R H L' J J1 → LE J1 L' E c → mOk B c so bv Lk Ck mk mg E [] → (∀ k, k < c → ∃ r, E k = some r ∧ J1 (L' + 2) k = nI r.1) → (∀ z ∈ ([(0, .ref R), (1, .ref w)] : List (Nat × Value)), z ∈ lv0) → aw g l mX7_settle 138 lv0 [] (xJ h1 J1) Q := by
    intro E h1 J1 lv0 hx sh fv hE mo hall hlv
    refine aw_lv hlv ?_
    have u1 := UC_x hx sh u0
    obtain ⟨d1, d2, d3, d4⟩ := ctx J1 fv
    obtain ⟨r1, ⟨p0, p1, p2, p3, -⟩, -, -, hLd, -⟩ := id u1.2.1
    have t4 := hLd.1
    have tw := u1.1.1.1
    have ff : ∀ k, k < c → J1 (L' + 2) k = nI (match E k with | none => 0 | some r => r.1) ∧ (match E k with | none => 0 | some r => r.1) < 100 := fun k hk => by
      obtain ⟨r, er, e2⟩ := hall k hk
      rw [er]
      exact ⟨e2, ((hE k hk).2 r er).1⟩
    refine sX7_settle_138 rfl ?_
    refine jX7_settle_139 (by assumption) (by assumption) ?_
    refine sX7_settle_142 rfl ?_
    refine jX7_settle_143 (by assumption) ?_
    rw [d4]
    refine jX7_settle_146 (Nat.le_of_ble_eq_true rfl) (by assumption) ?_
    refine c_firstEndless hLd hc ff (fun o ho1 ho2 => ?_)
    refine sX7_settle_149 ?_
    refine sX7_settle_150 rfl ?_
    refine sX7_settle_151 ?_
    cases o with
    | none =>
      refine sX7_settle_152 (fun _ => ?_) (fun y => absurd rfl y)
      refine sX7_settle_159 rfl ?_
      refine sX7_settle_160 (kA h1 J1 E (hZ_t z0 (hZ_x hx)) u1 fv hE (fun k hk => ?_))
      obtain ⟨r, er, -⟩ := hall k hk
      have n4 : r.1 ≠ 4 := by have := ho1 rfl k hk; rw [er] at this; exact this
      exact ⟨r, er, n4, (mo k hk r er).1 n4⟩
    | some j =>
      obtain ⟨hj, hj4, hjl⟩ := ho2 j rfl
      refine sX7_settle_152 (fun y => absurd y (oI_neg (by omega))) (fun _ => ?_)
      refine sX7_settle_155 rfl ?_
      refine jX7_settle_156 (Nat.le_of_ble_eq_true rfl) (by assumption) ?_
      refine c_swap u1 ?_
      refine sX7_settle_159 rfl ?_
      refine sX7_settle_160 (kB _ J1 j (hZ_t (hZ_t z0 (hZ_x hx)) hZ_s) (UC_w u1) fv hj ?_ (fun i hi => ?_))
      · obtain ⟨r, er, -⟩ := hall j hj
        rw [er] at hj4
        rcases (mo j hj r er).2 hj4 with y | y
        · cases y
        · exact y
      · obtain ⟨r, er, -⟩ := hall i (by omega)
        have n4 : r.1 ≠ 4 := by have := hjl i hi; rw [er] at this; exact this
        obtain ⟨f, hf⟩ := (mo i (by omega) r er).1 n4
        exact ⟨f, r, hf⟩
  -- the loop
  have loop : ∀ (μ : Nat) (E : Nat → Option (Nat × Vl)) (ws : List We) (n t : Nat) (h1 : xH) (J1 : Nat → Nat → Int32) (lv0 : List (Nat × Value)), 2 * nw E c + ws.length = μ → t + μ ≤ 200 → ws.length + nw E c ≤ c → hX R h0 h1 → SH h1 R H → fV w R H L' J J1 → LE J1 L' E c → J1 R 8 = nI ws.length → J1 R 4 = nI (tot ws).length → SJ h1 J1 R (tot ws) → wJ J1 R cs ws → wOk B c so Lk Ck mk lo mg E ws → nds B c so bv Lk Ck mk mg (ws.map (·.1)) → (ws.map (·.1)).Nodup → mOk B c so bv Lk Ck mk mg E (ws.map (·.1)) → (∀ k, k < c → ∀ r, E k = some r → k ∉ ws.map (·.1) → J1 (L' + 2) k = nI r.1) → (∀ k, k < c → so k = 0 → E k ≠ none) → n ≤ c → (∀ i, i < n → E i ≠ none) → (∀ z ∈ ([(0, .ref R), (1, .ref w), (2, .int (nI n)), (3, .int (nI t))] : List (Nat × Value)), z ∈ lv0) → aw g l mX7_settle 26 lv0 [] (xJ h1 J1) Q := by
    intro μ
    induction μ with
    | zero =>
      intro E ws n t h1 J1 lv0 e1 e2 e3 hx sh fv hE h8 h4 sj wj wo nd nod mo stK bas hn hnE hlv
      have ws0 : ws = [] := List.length_eq_zero_iff.mp (by omega)
      subst ws0
      refine aw_lv hlv ?_
      have u1 := UC_x hx sh u0
      obtain ⟨d1, d2, d3, d4⟩ := ctx J1 fv
      obtain ⟨r1, ⟨p0, p1, p2, p3, -⟩, -, -, hLd, -⟩ := id u1.2.1
      have t4 := hLd.1
      have tw := u1.1.1.1
      refine sX7_settle_26 rfl ?_
      refine nX7_settle_27 ?_
      refine nX7_settle_30 (by omega) (by omega) (fun y => absurd y (by omega)) (fun _ => ?_)
      refine sX7_settle_33 rfl ?_
      refine sX7_settle_34 ?_
      refine sX7_settle_35 (fun y => absurd y (oI_neg (by omega))) (fun _ => ?_)
      refine sX7_settle_38 rfl ?_
      refine jX7_settle_39 (by assumption) ?_
      rw [show J1 R 8 = nI 0 from h8]
      refine nX7_settle_42 (by decide) (fun y => absurd rfl y) (fun _ => ?_)
      refine sX7_settle_45 rfl ?_
      refine jX7_settle_46 (by assumption) (by assumption) ?_
      refine sX7_settle_49 rfl ?_
      refine sX7_settle_50 rfl ?_
      refine jX7_settle_51 (by assumption) ?_
      rw [d4]
      refine jX7_settle_54 (Nat.le_of_ble_eq_true rfl) (by assumption) ?_
      refine c_firstNew hLd hE hc hn (fun o ho1 ho2 => ?_)
      cases o with
      | some j =>
        obtain ⟨a1, a2, a3, -⟩ := ho2 j rfl
        have := nw_pos a2 a3
        omega
      | none =>
        refine sX7_settle_57 ?_
        refine sX7_settle_58 rfl ?_
        refine sX7_settle_59 rfl ?_
        refine sX7_settle_60 rfl ?_
        refine jX7_settle_61 (Nat.le_of_ble_eq_true rfl) (by assumption) ?_
        refine c_enterN u1 d4 hc ?_
        refine sX7_settle_64 ?_
        refine nX7_settle_132 rfl ?_
        refine sX7_settle_135 ?_
        have hall : ∀ k, k < c → ∃ r, E k = some r ∧ J1 (L' + 2) k = nI r.1 := fun k hk => by
          cases ek : E k with
          | none =>
            rcases Nat.lt_or_ge k n with y | y
            · exact absurd ek (hnE k y)
            · exact absurd ek (ho1 rfl k y hk)
          | some r => exact ⟨r, rfl, stK k hk r ek (fun y => by cases y)⟩
        refine sX7_settle_26 rfl ?_
        refine nX7_settle_27 ?_
        refine nX7_settle_30 (by omega) (by omega) (fun _ => done E h1 J1 _ hx sh fv hE mo hall (fun z hz => by simp only [List.mem_cons, List.not_mem_nil, or_false] at hz; rcases hz with rfl | rfl <;> exact xlk_mem rfl)) (fun _ => ?_)
        refine sX7_settle_33 rfl ?_
        refine sX7_settle_34 ?_
        refine sX7_settle_35 (fun _ => done E h1 J1 _ hx sh fv hE mo hall (fun z hz => by simp only [List.mem_cons, List.not_mem_nil, or_false] at hz; rcases hz with rfl | rfl <;> exact xlk_mem rfl)) (fun y => absurd rfl y)
    | succ μ ih =>
      intro E ws n t h1 J1 lv0 e1 e2 e3 hx sh fv hE h8 h4 sj wj wo nd nod mo stK bas hn hnE hlv
      refine aw_lv hlv ?_
      have u1 := UC_x hx sh u0
      obtain ⟨d1, d2, d3, d4⟩ := ctx J1 fv
      obtain ⟨r1, ⟨p0, p1, p2, p3, p5, p6, p7⟩, ⟨s0, s1, s2⟩, -, hLd, -⟩ := id u1.2.1
      have t4 := hLd.1
      obtain ⟨tw, ⟨-, -, -, -, -, -, -, w7, -⟩, -, ⟨-, -, -, -, -, t11, -⟩, -⟩ := id u1.1.1
      have Tr := mOk_Tr mo
      -- one begins
      have begin' : ∀ (pc j : Nat) (ws1 : List We) (J2 : Nat → Nat → Int32) (h2 : xH) (n2 : Nat) (lv1 : List (Nat × Value)), (∀ h3 : xH, aw g l mX7_settle 132 lv1 [] h3 Q → aw g l mX7_settle pc lv1 [] h3 Q) → j < c → E j = none → hX R h0 h2 → SH h2 R H → fV w R H L' J J2 → LE J2 L' E c → ws1.length = ws.length → J2 R 8 = nI ws.length → J2 R 4 = nI (tot ws1).length → SJ h2 J2 R (tot ws1) → wJ J2 R cs ws1 → wOk B c so Lk Ck mk lo mg E ws1 → ws1.map (·.1) = ws.map (·.1) → (∀ k ks, ws.map (·.1) = k :: ks → so k ≠ 0 ∧ exe B (Ck k) (mk k) (stE E) (mg k) (Lk k) [] = rNeed j) → (∀ k, k < c → ∀ r, E k = some r → k ∉ ws.map (·.1) → J2 (L' + 2) k = nI r.1) → n2 ≤ c → (∀ i, i < n2 → E i ≠ none) → (∀ z ∈ ([(0, .ref R), (1, .ref w), (2, .int (nI n2)), (3, .int (nI t))] : List (Nat × Value)), z ∈ lv1) → ac g l mX7_enter [.ref R, .int (nI j), .ref w] (xJ h2 J2) (fun r h3 => aw g l mX7_settle pc lv1 (r.toList ++ []) h3 Q) := by
        intro pc j ws1 J2 h2 n2 lv1 hpc hj ej hx2 sh2 fv2 hE2 el h82 h42 sj2 wj2 wo2 emap hnd stK2 hn2 hnE2 hlv1
        have u2 := UC_x hx2 sh2 u0
        obtain ⟨k1, -, -, -⟩ := ctx J2 fv2
        have nwe := nw_enter ej (r := (4, v00)) hj
        have hnot : j ∉ ws.map (·.1) := by
          intro hin
          have : ∀ {ws : List We}, wOk B c so Lk Ck mk lo mg E ws → ∀ i, i ∈ ws.map (·.1) → E i = some (4, v00) := by
            intro ws
            induction ws with
            | nil => intro _ i hi; cases hi
            | cons e ws ih2 =>
              intro hw i hi
              rcases List.mem_cons.mp hi with y | y
              · rw [y]; exact hw.1.2.2.1
              · exact ih2 hw.2 i y
          rw [this wo j hin] at ej; cases ej
        have tl := tot_len wo2
        refine c_enter u2 k1 hj (by omega) h82 h42 (fun J3 o1 o2 o3 o4 o5 o6 o7 o8 o9 => ?_)
        refine hpc _ ?_
        refine aw_lv hlv1 ?_
        refine nX7_settle_132 rfl ?_
        refine sX7_settle_135 ?_
        have fv3 : fV w R H L' J2 J3 := ⟨fun r a1 a2 a3 a4 a5 => o1 r a2 (by omega) (by omega) (by omega) (by omega), fun i _ _ => by rw [o1 w (by omega) (by omega) (by omega) (by omega) (by omega)], by rw [o1 _ (by omega) (by omega) (by omega) (by omega) (by omega)]⟩
        have hso : so j ≠ 0 := fun hz => bas j hj hz ej
        have rowV : ∀ r, L' + 2 ≤ r → r < L' + 604 → r ≠ L' + 3 → J3 r = J2 r := fun r a1 a2 a3 => o1 r (by omega) a3 (by omega) (by omega) (by omega)
        have ne4 : ∀ e ∈ ws1, e.1 ≠ j := fun e he ee => hnot (by rw [← emap, ← ee]; exact List.mem_map_of_mem he)
        refine ih (va_up E j (some (4, v00))) ((j, [], Lk j, []) :: ws1) n2 (t + 1) h2 J3 _ ?_ (by omega) ?_ hx2 sh2 (fV_t fv2 fv3) ?_ ?_ ?_ ?_ ?_ ?_ ?_ ?_ ?_ ?_ ?_ hn2 ?_ (fun z hz => by simp only [List.mem_cons, List.not_mem_nil, or_false] at hz; rcases hz with rfl | rfl | rfl | rfl <;> exact xlk_mem rfl)
        · show 2 * nw (va_up E j (some (4, v00))) c + (ws1.length + 1) = μ; omega
        · show ws1.length + 1 + nw (va_up E j (some (4, v00))) c ≤ c; omega
        · intro k hk
          obtain ⟨b1, b2⟩ := hE2 k hk
          by_cases ekj : k = j
          · subst ekj
            rw [vup_s]
            refine ⟨fun y => (by cases y), fun r er => ?_⟩
            have := Option.some.inj er
            subst this
            exact ⟨(show (4 : Nat) < 100 by decide), Or.inl ⟨o5, rfl⟩⟩
          · rw [vup_n ekj, o4 k ekj, rowV (L' + 2) (by omega) (by omega) (by omega)]
            refine ⟨b1, fun r er => ⟨(b2 r er).1, ?_⟩⟩
            rcases (b2 r er).2 with y | ⟨y1, y2, y3⟩
            · exact Or.inl y
            · exact Or.inr ⟨y1, y2, fun y0 => ⟨VJ_c (fun q a1 a2 => rowV q (by omega) (by omega) (by omega)) (y3 y0).1, (y3 y0).2⟩⟩
        · show J3 R 8 = nI (ws1.length + 1); rw [el]; exact o3
        · show J3 R 4 = nI (tot ws1).length; rw [o2 4 (by decide)]; exact h42
        · exact SJ_same (V := tot ws1) (hX_r R h2) sh2 (fun r a1 a2 => o1 r (by omega) (by omega) (by omega) (by omega) (by omega)) (by omega) sj2
        · rw [← el] at o7 o8 o9 o6
          exact ⟨⟨o7, o8, o9⟩, wJ_c (fun i hi => o6 i (by omega)) wj2⟩
        · have hk1 := (k1.2.2.1 j hj).2.2.2.2.2.2 hso
          refine ⟨⟨hj, hso, vup_s, rfl, rfl, hk1.2.2.2, Nat.zero_le _⟩, wOk_c hm (by rw [stE_up4 ej]; exact fun _ _ _ e => e) (fun e he => vup_n (ne4 e he)) wo2⟩
        · show nds B c so bv Lk Ck mk mg (j :: ws1.map (·.1))
          rw [emap]
          cases em : ws.map (·.1) with
          | nil => exact trivial
          | cons k ks =>
            obtain ⟨q1, q2⟩ := hnd k ks em
            exact ⟨⟨q1, stE E, Tr, q2⟩, em ▸ nd⟩
        · show (j :: ws1.map (·.1)).Nodup
          rw [emap]
          exact List.nodup_cons.mpr ⟨hnot, nod⟩
        · intro k hk r er
          show (r.1 ≠ 4 → _) ∧ (r.1 = 4 → k ∈ j :: ws1.map (·.1) ∨ _)
          rw [emap]
          by_cases ekj : k = j
          · subst ekj
            rw [vup_s] at er
            have := Option.some.inj er
            subst this
            exact ⟨fun y => absurd rfl y, fun _ => Or.inl List.mem_cons_self⟩
          · rw [vup_n ekj] at er
            obtain ⟨q1, q2⟩ := mo k hk r er
            exact ⟨q1, fun y => (q2 y).imp (fun z => List.mem_cons_of_mem _ z) id⟩
        · intro k hk r er hnk
          have hnk' : k ∉ j :: ws1.map (·.1) := hnk
          rw [emap] at hnk'
          have ekj : k ≠ j := fun z => hnk' (z ▸ List.mem_cons_self)
          rw [vup_n ekj] at er
          rw [rowV _ (by omega) (by omega) (by omega)]
          exact stK2 k hk r er (fun z => hnk' (List.mem_cons_of_mem _ z))
        · intro k hk hz
          by_cases ekj : k = j
          · rw [ekj, vup_s]; intro y; cases y
          · rw [vup_n ekj]; exact bas k hk hz
        · intro i hi
          by_cases ekj : i = j
          · rw [ekj, vup_s]; intro y; cases y
          · rw [vup_n ekj]; exact hnE2 i hi
      refine sX7_settle_26 rfl ?_
      refine nX7_settle_27 ?_
      refine nX7_settle_30 (by omega) (by omega) (fun y => absurd y (by omega)) (fun _ => ?_)
      refine sX7_settle_33 rfl ?_
      refine sX7_settle_34 ?_
      refine sX7_settle_35 (fun y => absurd y (oI_neg (by omega))) (fun _ => ?_)
      refine sX7_settle_38 rfl ?_
      refine jX7_settle_39 (by assumption) ?_
      cases ws with
      | nil =>
        rw [show J1 R 8 = nI 0 from h8]
        refine nX7_settle_42 (by decide) (fun y => absurd rfl y) (fun _ => ?_)
        refine sX7_settle_45 rfl ?_
        refine jX7_settle_46 (by assumption) (by assumption) ?_
        refine sX7_settle_49 rfl ?_
        refine sX7_settle_50 rfl ?_
        refine jX7_settle_51 (by assumption) ?_
        rw [d4]
        refine jX7_settle_54 (Nat.le_of_ble_eq_true rfl) (by assumption) ?_
        refine c_firstNew hLd hE hc hn (fun o ho1 ho2 => ?_)
        cases o with
        | some j =>
          obtain ⟨a1, a2, a3, a4⟩ := ho2 j rfl
          refine sX7_settle_57 ?_
          refine sX7_settle_58 rfl ?_
          refine sX7_settle_59 (x := nI j) rfl ?_
          refine sX7_settle_60 rfl ?_
          refine jX7_settle_61 (Nat.le_of_ble_eq_true rfl) (by assumption) ?_
          refine begin' 64 j [] J1 h1 j _ (fun h3 q => sX7_settle_64 q) a2 a3 hx sh fv hE rfl h8 h4 sj wj wo rfl (fun k ks y => by cases y) stK (by omega) (fun i hi => ?_) (fun z hz => by simp only [List.mem_cons, List.not_mem_nil, or_false] at hz; rcases hz with rfl | rfl | rfl | rfl <;> exact xlk_mem rfl)
          rcases Nat.lt_or_ge i n with y | y
          · exact hnE i y
          · exact a4 i y hi
        | none =>
          refine sX7_settle_57 ?_
          refine sX7_settle_58 rfl ?_
          refine sX7_settle_59 rfl ?_
          refine sX7_settle_60 rfl ?_
          refine jX7_settle_61 (Nat.le_of_ble_eq_true rfl) (by assumption) ?_
          refine c_enterN u1 d4 hc ?_
          refine sX7_settle_64 ?_
          refine nX7_settle_132 rfl ?_
          refine sX7_settle_135 ?_
          have hall : ∀ k, k < c → ∃ r, E k = some r ∧ J1 (L' + 2) k = nI r.1 := fun k hk => by
            cases ek : E k with
            | none =>
              rcases Nat.lt_or_ge k n with y | y
              · exact absurd ek (hnE k y)
              · exact absurd ek (ho1 rfl k y hk)
            | some r => exact ⟨r, rfl, stK k hk r ek (fun y => by cases y)⟩
          refine sX7_settle_26 rfl ?_
          refine nX7_settle_27 ?_
          refine nX7_settle_30 (by omega) (by omega) (fun _ => done E h1 J1 _ hx sh fv hE mo hall (fun z hz => by simp only [List.mem_cons, List.not_mem_nil, or_false] at hz; rcases hz with rfl | rfl <;> exact xlk_mem rfl)) (fun _ => ?_)
          refine sX7_settle_33 rfl ?_
          refine sX7_settle_34 ?_
          refine sX7_settle_35 (fun _ => done E h1 J1 _ hx sh fv hE mo hall (fun z hz => by simp only [List.mem_cons, List.not_mem_nil, or_false] at hz; rcases hz with rfl | rfl <;> exact xlk_mem rfl)) (fun y => absurd rfl y)
      | cons e ws =>
        obtain ⟨k, Ld, Lr, U⟩ := e
        obtain ⟨⟨hk, hso, eE, eL, eEx, hdk, hU66⟩, wo'⟩ := id wo
        have hk : k < c := hk
        have eE : E k = some (4, v00) := eE
        have eL : Lk k = Ld ++ Lr := eL
        have eEx : exe B (Ck k) (mk k) (stE E) (mg k) Ld [] = rOk U := eEx
        have hso : so k ≠ 0 := hso
        have hdk : dk (Ck k) (mk k) (lo k) 66 1 Lr U.length := hdk
        have hU66 : U.length ≤ 66 := hU66
        obtain ⟨⟨j1, j2, j3⟩, wj'⟩ := id wj
        have j1 : J1 (R + 1210) ws.length = nI k := j1
        have j2 : J1 (R + 1211) ws.length = nI (cs k + Ld.length) := j2
        have j3 : J1 (R + 1212) ws.length = nI (tot ws).length := j3
        have h8' : J1 R 8 = nI (ws.length + 1) := h8
        have e1' : 2 * nw E c + (ws.length + 1) = μ + 1 := e1
        have e3' : ws.length + 1 + nw E c ≤ c := e3
        have tl := tot_len wo'
        obtain ⟨b1, b2, b3, b4, b5, b6, b7⟩ := d1.2.2.1 k hk
        obtain ⟨b8, b9, b10, b11⟩ := b7 hso
        have eLl : (Lk k).length = Ld.length + Lr.length := by rw [eL, List.length_append]
        have evE : ∀ {r : Rs}, exe B (Ck k) (mk k) (stE E) (mg k) Lr U = r → exe B (Ck k) (mk k) (stE E) (mg k) (Lk k) [] = r := fun {r} y => by rw [eL, exe_app eEx]; exact y
        have knot : k ∉ ws.map (·.1) := (List.nodup_cons.mp nod).1
        have nodw : (ws.map (·.1)).Nodup := (List.nodup_cons.mp nod).2
        have ndw : nds B c so bv Lk Ck mk mg (ws.map (·.1)) := by
          have nd' : nds B c so bv Lk Ck mk mg (k :: ws.map (·.1)) := nd
          cases em : ws.map (·.1) with
          | nil => exact trivial
          | cons a as => rw [em] at nd'; exact nd'.2
        -- one ends
        have leave' : ∀ (f : Nat) (r : Nat × Vl) (h2 : xH) (J2 : Nat → Nat → Int32) (lv1 : List (Nat × Value)), hX R h1 h2 → SH h2 R H → fU w R H J1 J2 → f < 100 → J2 R 10 = nI f → SJ h2 J2 R (tot ws) → (f = 0 → SJ h2 J2 R (r.2 :: tot ws)) → r.1 = f → (r.1 ≠ 4 → ∃ q, dn B c so bv Lk Ck mk mg q k = some r) → (r.1 = 4 → ¬ fin B c so bv Lk Ck mk mg k) → (∀ z ∈ ([(0, .ref R), (1, .ref w), (2, .int (nI n)), (3, .int (nI t))] : List (Nat × Value)), z ∈ lv1) → aw g l mX7_settle 99 lv1 [.int (-1)] (xJ h2 J2) Q := by
          intro f r h2 J2 lv1 hx2 sh2 fu2 hf h10 sjW sjv hrf hr4 hr4' hlv1
          refine aw_lv hlv1 ?_
          have hx02 := hX_t hx hx2
          have u2 := UC_x hx02 sh2 u0
          have r7 := u2.2.1.1
          have rw2 : ∀ r, R < r → r < R + 1213 → J2 r = J1 r := fun r a1 a2 => fu2.1 r (by omega) (by omega) (by omega) (by omega)
          have e28 : J2 R 8 = nI (ws.length + 1) := by rw [fu2.2.2.1 8 (by decide) (by decide) (by decide) (by decide)]; exact h8'
          refine sX7_settle_99 ?_
          refine sX7_settle_101 rfl ?_
          refine sX7_settle_103 ?_
          refine sX7_settle_104 (fun y => absurd rfl y) (fun _ => ?_)
          refine sX7_settle_107 rfl ?_
          refine jX7_settle_108 (Nat.le_of_ble_eq_true rfl) (by assumption) ?_
          refine c_leave (k := k) (n := ws.length) (f := f) (W := tot ws) u2 (by omega) (by omega) e28 h10 hf (by rw [rw2 _ (by omega) (by omega)]; exact j1) (by rw [rw2 _ (by omega) (by omega)]; exact j3) (by omega) sjW sjv (fun J3 o1 o2 o3 o4 o5 o6 o7 o8 => ?_)
          refine sX7_settle_111 ?_
          refine nX7_settle_132 rfl ?_
          refine sX7_settle_135 ?_
          have fv2 : fV w R H L' J J2 := fV_t fv (fV_U fu2)
          have fv3 : fV w R H L' J2 J3 := ⟨fun q a1 a2 a3 a4 a5 => o1 q a2 (by omega) (by omega) (by omega), fun i _ _ => by rw [o1 w (by omega) (by omega) (by omega) (by omega)], by rw [o1 _ (by omega) (by omega) (by omega) (by omega)]⟩
          have nwl := nw_leave (r := r) eE (c := c)
          have ekk : ∀ i, i ≠ k → va_up E k (some r) i = E i := fun i hi => vup_n hi
          have nek : ∀ e ∈ ws, e.1 ≠ k := fun e he ee => knot (by rw [← ee]; exact List.mem_map_of_mem he)
          refine ih (va_up E k (some r)) ws n (t + 1) h2 J3 _ (by omega) (by omega) (by omega) hx02 sh2 (fV_t fv2 fv3) ?_ o2 o3 ?_ ?_ ?_ ndw nodw ?_ ?_ ?_ hn ?_ (fun z hz => by simp only [List.mem_cons, List.not_mem_nil, or_false] at hz; rcases hz with rfl | rfl | rfl | rfl <;> exact xlk_mem rfl)
          · intro i hi
            by_cases eik : i = k
            · subst eik
              rw [vup_s]
              refine ⟨fun y => (by cases y), fun s es => ?_⟩
              have := Option.some.inj es
              subst this
              refine ⟨by omega, Or.inr ⟨o7, by rw [hrf]; exact o6, fun y => ?_⟩⟩
              exact o8 (by omega)
            · rw [ekk i eik, (o5 i eik).1, (o5 i eik).2, rw2 _ (by omega) (by omega), rw2 _ (by omega) (by omega)]
              obtain ⟨q1, q2⟩ := hE i hi
              refine ⟨q1, fun s es => ⟨(q2 s es).1, ?_⟩⟩
              rcases (q2 s es).2 with y | ⟨y1, y2, y3⟩
              · exact Or.inl y
              · exact Or.inr ⟨y1, y2, fun y0 => ⟨VJ_c (fun q a1 a2 => by rw [o1 q (by omega) (by omega) (by omega) (by omega), rw2 q (by omega) (by omega)]) (y3 y0).1, (y3 y0).2⟩⟩
          · exact SJ_same (V := tot ws) (hX_r R h2) sh2 (fun q a1 a2 => o1 q (by omega) (by omega) (by omega) (by omega)) (by omega) sjW
          · refine wJ_c (fun i _ => ?_) wj'
            rw [o1 _ (by omega) (by omega) (by omega) (by omega), o1 _ (by omega) (by omega) (by omega) (by omega), o1 _ (by omega) (by omega) (by omega) (by omega), rw2 _ (by omega) (by omega), rw2 _ (by omega) (by omega), rw2 _ (by omega) (by omega)]
            exact ⟨rfl, rfl, rfl⟩
          · exact wOk_c hm (stE_up eE rfl) (fun e he => ekk _ (nek e he)) wo'
          · intro i hi s es
            by_cases eik : i = k
            · subst eik
              rw [vup_s] at es
              have := Option.some.inj es
              subst this
              exact ⟨hr4, fun y => Or.inr (hr4' y)⟩
            · rw [ekk i eik] at es
              obtain ⟨q1, q2⟩ := mo i hi s es
              refine ⟨q1, fun y => (q2 y).imp (fun z => ?_) id⟩
              rcases List.mem_cons.mp z with z | z
              · exact absurd z eik
              · exact z
          · intro i hi s es hni
            by_cases eik : i = k
            · subst eik
              rw [vup_s] at es
              have := Option.some.inj es
              subst this
              rw [hrf]; exact o6
            · rw [ekk i eik] at es
              rw [(o5 i eik).1, rw2 _ (by omega) (by omega)]
              refine stK i hi s es (fun z => ?_)
              rcases List.mem_cons.mp z with z | z
              · exact eik z
              · exact hni z
          · intro i hi hz
            by_cases eik : i = k
            · rw [eik, vup_s]; intro y; cases y
            · rw [ekk i eik]; exact bas i hi hz
          · intro i hi
            by_cases eik : i = k
            · rw [eik, vup_s]; intro y; cases y
            · rw [ekk i eik]; exact hnE i hi
        rw [h8']
        refine nX7_settle_42 (by omega) (fun _ => ?_) (fun y => absurd y (by omega))
        refine sX7_settle_67 rfl ?_
        refine jX7_settle_68 (by assumption) ?_
        rw [h8']
        refine nX7_settle_71 ?_
        refine nX7_settle_72 (by omega) ?_
        rw [show ws.length + 1 - 1 = ws.length by omega]
        refine sX7_settle_73 ?_
        refine sX7_settle_75 rfl ?_
        refine sX7_settle_76 rfl ?_
        refine sX7_settle_77 rfl ?_
        refine jX7_settle_78 (by assumption) (by assumption) ?_
        refine sX7_settle_81 rfl ?_
        refine jX7_settle_83 (by assumption) (by omega) (by omega) ?_
        rw [j2]
        refine sX7_settle_84 rfl ?_
        refine jX7_settle_85 (by assumption) (by assumption) ?_
        refine sX7_settle_88 rfl ?_
        refine jX7_settle_89 (by assumption) (by assumption) ?_
        refine sX7_settle_92 rfl ?_
        refine jX7_settle_94 (by assumption) (by omega) (by omega) ?_
        rw [j1]
        refine jX7_settle_95 (by assumption) (by omega) (by omega) ?_
        rw [b4, eLl, ← Nat.add_assoc]
        refine jX7_settle_96 (Nat.le_of_ble_eq_true rfl) (by assumption) ?_
        have hmk : mng so ln nm c (Ck k) = mg k := (hmg k).symm
        refine c_run (E := E) (C := Ck k) (m := mk k) (lo := lo k) (kE := 1) (U0 := U) (W := tot ws) u1 hE d1.1 d1.2.1 d1.2.2.2 b8 b9 b10 (d2 h1 u1) d3 hB0 hB2 (by decide) (sg_drop (by rw [← eL]; exact b6)) (by omega) hdk (by omega) (by rw [h4]; show nI (U ++ tot ws).length = _; rw [List.length_append]) sj (fun h2 J2 U' hx2 sh2 fu2 ex e10 e4 sj2 hl1 => ?_) (fun h2 J2 f p hx2 sh2 fu2 ex f0 f1 e10 e11 sjW => ?_) (fun h2 J2 j L1 L2 U2 hx2 sh2 fu2 eL2 ex1 ex2 hdk2 hU2 hj ej e10 e9 e4 sj2 => ?_)
        · rw [hmk] at ex
          obtain ⟨v, hv⟩ : ∃ v, U' = [v] := by
            cases U' with
            | nil => cases hl1
            | cons v V =>
              cases V with
              | nil => exact ⟨v, rfl⟩
              | cons y V => exact absurd hl1 (by show ¬ V.length + 1 + 1 = 1; omega)
          subst hv
          have exs : exe B (Ck k) (mk k) (stE E) (mg k) (Lk k) [] = rOk [v] := by
            rcases exe_st (B := B) (C := Ck k) (m := mk k) (E := E) (L := Lr) (V := U) (hm k) with ⟨y, -⟩ | ⟨q, j, y, -⟩
            · exact evE (y.trans ex)
            · rw [ex] at y; exact absurd y.symm rBad_ne
          exact leave' 0 (0, v) h2 J2 _ hx2 sh2 fu2 (by decide) e10 sj2.2 (fun _ => sj2) rfl (fun _ => Tr_done hm Tr hso (by rw [exs]; rfl)) (fun y => absurd y (show (0 : Nat) ≠ 4 by decide)) (fun z hz => by simp only [List.mem_cons, List.not_mem_nil, or_false] at hz; rcases hz with rfl | rfl | rfl | rfl <;> exact xlk_mem rfl)
        · rw [hmk] at ex
          refine leave' f (f, v00) h2 J2 _ hx2 sh2 fu2 f1 e10 sjW (fun y => absurd y f0) rfl (fun y => ?_) (fun y => ?_) (fun z hz => by simp only [List.mem_cons, List.not_mem_nil, or_false] at hz; rcases hz with rfl | rfl | rfl | rfl <;> exact xlk_mem rfl)
          · have y : f ≠ 4 := y
            rcases exe_st (B := B) (C := Ck k) (m := mk k) (E := E) (L := Lr) (V := U) (hm k) with ⟨z, -⟩ | ⟨q, j, z, -⟩
            · exact Tr_done hm Tr hso (by rw [evE (z.trans ex)]; rfl)
            · rw [ex] at z; exact absurd (congrArg (fun r : Rs => r.2.1) z) y
          · have y : f = 4 := y
            subst y
            rcases exe_st (B := B) (C := Ck k) (m := mk k) (E := E) (L := Lr) (V := U) (hm k) with ⟨-, z⟩ | ⟨q, j, z, hj, ⟨s, es, hs4⟩, zn⟩
            · exact absurd ex (z p)
            · have en := evE zn
              rcases (mo j hj s es).2 hs4 with y | y
              · exact nds_loop hm nd hso Tr en y
              · exact Tr_nofin hm Tr hso en y
        · rw [hmk] at ex1 ex2
          have exs1 : exe B (Ck k) (mk k) (stE E) (mg k) L1 U = rOk U2 := by
            rcases exe_st (B := B) (C := Ck k) (m := mk k) (E := E) (L := L1) (V := U) (hm k) with ⟨y, -⟩ | ⟨q, j, y, -⟩
            · exact y.trans ex1
            · rw [ex1] at y; exact absurd y.symm rBad_ne
          have exs2 : exe B (Ck k) (mk k) (stE E) (mg k) L2 U2 = rNeed j := by
            rcases exe_st (B := B) (C := Ck k) (m := mk k) (E := E) (L := L2) (V := U2) (hm k) with ⟨y, -⟩ | ⟨q, j', y, -⟩
            · exact y.trans ex2
            · rw [ex2] at y; exact absurd (congrArg (fun r : Rs => r.1) y) (show (2 : Nat) ≠ 1 by decide)
          have hx02 := hX_t hx hx2
          have u2 := UC_x hx02 sh2 u0
          obtain ⟨r7, ⟨-, -, -, -, -, q6, -⟩, ⟨-, s1', -⟩, -⟩ := id u2.2.1
          have rw2 : ∀ r, R < r → r < R + 1213 → J2 r = J1 r := fun r a1 a2 => fu2.1 r (by omega) (by omega) (by omega) (by omega)
          refine sX7_settle_99 ?_
          refine sX7_settle_101 rfl ?_
          refine sX7_settle_103 ?_
          refine sX7_settle_104 (fun _ => ?_) (fun y => absurd y (oI_neg (by omega)))
          refine sX7_settle_114 rfl ?_
          refine jX7_settle_115 (by assumption) (by assumption) ?_
          refine sX7_settle_118 rfl ?_
          refine sX7_settle_120 rfl ?_
          refine jX7_settle_121 (by assumption) ?_
          rw [e9]
          refine jX7_settle_124 (by assumption) (by omega) (by omega) ?_
          refine sX7_settle_125 rfl ?_
          refine sX7_settle_126 (x := nI j) rfl ?_
          refine sX7_settle_128 rfl ?_
          refine jX7_settle_129 (Nat.le_of_ble_eq_true rfl) (by assumption) ?_
          have fv3 : fV w R H L' J (xup2 J2 (R + 1211) ws.length (nI (cs k + Ld.length + L1.length))) := fV_t (fV_t fv (fV_U fu2)) (fV_u hwR hRL' (by omega))
          have r3 : ∀ r, r ≠ R + 1211 → xup2 J2 (R + 1211) ws.length (nI (cs k + Ld.length + L1.length)) r = J2 r := fun r hr => xup2_r hr
          refine begin' 132 j ((k, Ld ++ L1, L2, U2) :: ws) _ h2 n _ (fun h3 q => q) hj ej hx02 sh2 fv3 ?_ rfl ?_ ?_ ?_ ?_ ?_ rfl ?_ ?_ hn hnE (fun z hz => by simp only [List.mem_cons, List.not_mem_nil, or_false] at hz; rcases hz with rfl | rfl | rfl | rfl <;> exact xlk_mem rfl)
          · intro i hi
            rw [r3 _ (by omega), r3 _ (by omega), rw2 _ (by omega) (by omega), rw2 _ (by omega) (by omega)]
            obtain ⟨q1, q2⟩ := hE i hi
            refine ⟨q1, fun s es => ⟨(q2 s es).1, ?_⟩⟩
            rcases (q2 s es).2 with y | ⟨y1, y2, y3⟩
            · exact Or.inl y
            · exact Or.inr ⟨y1, y2, fun y0 => ⟨VJ_c (fun q a1 a2 => by rw [r3 q (by omega), rw2 q (by omega) (by omega)]) (y3 y0).1, (y3 y0).2⟩⟩
          · rw [r3 _ (by omega), fu2.2.2.1 8 (by decide) (by decide) (by decide) (by decide)]; exact h8'
          · rw [r3 _ (by omega), e4]; show _ = nI (U2 ++ tot ws).length; rw [List.length_append]
          · exact SJ_same (V := U2 ++ tot ws) (hX_r R h2) sh2 (fun r a1 a2 => r3 r (by omega)) (by rw [List.length_append]; omega) sj2
          · refine ⟨⟨?_, ?_, ?_⟩, wJ_c (fun i hi => ⟨?_, ?_, ?_⟩) wj'⟩
            · rw [r3 _ (by omega), rw2 _ (by omega) (by omega)]; exact j1
            · rw [xup2_s]; show _ = nI (cs k + (Ld ++ L1).length); rw [List.length_append, Nat.add_assoc]
            · rw [r3 _ (by omega), rw2 _ (by omega) (by omega)]; exact j3
            · rw [r3 _ (by omega), rw2 _ (by omega) (by omega)]
            · rw [xup2_n (by omega), rw2 _ (by omega) (by omega)]
            · rw [r3 _ (by omega), rw2 _ (by omega) (by omega)]
          · exact ⟨⟨hk, hso, eE, by show Lk k = (Ld ++ L1) ++ L2; rw [List.append_assoc, ← eL2]; exact eL, by show exe B (Ck k) (mk k) (stE E) (mg k) (Ld ++ L1) [] = rOk U2; rw [exe_app eEx]; exact exs1, hdk2, hU2⟩, wo'⟩
          · intro k' ks ekk
            have : k = k' := (List.cons.inj ekk).1
            subst this
            refine ⟨hso, ?_⟩
            rw [eL, eL2, exe_app eEx, exe_app exs1]
            exact exs2
          · intro i hi s es hni
            rw [r3 _ (by omega), rw2 _ (by omega) (by omega)]
            exact stK i hi s es hni
  refine sX7_settle_0 rfl ?_
  refine jX7_settle_1 (Nat.le_of_ble_eq_true rfl) (by assumption) ?_
  refine c_swap hU ?_
  rw [hh0]
  have u0' := u0
  obtain ⟨r1, ⟨p0, p1, p2, p3, -⟩, -, -, hLd, -⟩ := id u0.2.1
  have t4 := hLd.1
  refine sX7_settle_4 rfl ?_
  refine jX7_settle_5 (by assumption) (by assumption) ?_
  refine sX7_settle_8 rfl ?_
  refine jX7_settle_9 (Nat.le_of_ble_eq_true rfl) (by assumption) ?_
  refine c_begin4 u0 hD (fun J1 o1 hE1 => ?_)
  have f1 : fV w R H L' J J1 := ⟨fun r a1 a2 a3 a4 a5 => o1 r a4, fun j _ _ => by rw [o1 w (by omega)], by rw [o1 _ (by omega)]⟩
  refine sX7_settle_12 rfl ?_
  refine nX7_settle_13 ?_
  refine jX7_settle_14 (by assumption) ?_
  refine sX7_settle_17 rfl ?_
  refine nX7_settle_18 ?_
  refine jX7_settle_19 (by assumption) ?_
  refine nX7_settle_22 ?_
  refine sX7_settle_23 ?_
  refine nX7_settle_24 ?_
  refine sX7_settle_25 ?_
  generalize hJ2 : xup2 (xup2 J1 R 8 (nI 0)) R 4 (nI 0) = J2
  have r2 : ∀ r, r ≠ R → J2 r = J1 r := fun r hr => by rw [← hJ2, xup2_r hr, xup2_r hr]
  have f2 : fV w R H L' J J2 := by rw [← hJ2]; exact fV_t f1 (fV_t (fV_u hwR hRL' (by omega)) (fV_u hwR hRL' (by omega)))
  have nl := nw_le (E0 so bn) c
  have e0s : ∀ k r, E0 so bn k = some r → so k = 0 ∧ r = (0, bvO bn k) := fun k r er => by
    unfold E0 at er
    by_cases z : so k = 0
    · rw [if_pos z] at er; exact ⟨z, (Option.some.inj er).symm⟩
    · rw [if_neg z] at er; cases er
  refine loop (2 * nw (E0 so bn) c) (E0 so bn) [] 0 0 h0 J2 _ rfl (by omega) (by show 0 + _ ≤ c; omega) (hX_r R h0) u0.2.2.1 f2 ?_ (by rw [← hJ2, xup2_n (by decide), xup2_s]; rfl) (by rw [← hJ2, xup2_s]; rfl) trivial trivial trivial trivial List.nodup_nil ?_ ?_ ?_ (Nat.zero_le _) (fun i hi => by omega) (fun z hz => by simp only [List.mem_cons, List.not_mem_nil, or_false] at hz; rcases hz with rfl | rfl | rfl | rfl <;> exact xlk_mem rfl)
  · intro k hk
    rw [r2 _ (by omega), r2 _ (by omega)]
    obtain ⟨q1, q2⟩ := hE1 k hk
    refine ⟨q1, fun s es => ⟨(q2 s es).1, ?_⟩⟩
    rcases (q2 s es).2 with y | ⟨y1, y2, y3⟩
    · exact Or.inl y
    · exact Or.inr ⟨y1, y2, fun y0 => ⟨VJ_c (fun q a1 a2 => r2 q (by omega)) (y3 y0).1, (y3 y0).2⟩⟩
  · intro k hk r er
    obtain ⟨z, er'⟩ := e0s k r er
    subst er'
    refine ⟨fun _ => ⟨0, ?_⟩, fun y => absurd y (show (0 : Nat) ≠ 4 by decide)⟩
    show (if so k = 0 then some (0, bv k) else none) = some (0, bvO bn k)
    rw [if_pos z, hbv]
  · intro k hk r er _
    obtain ⟨z, er'⟩ := e0s k r er
    rcases ((hE1 k hk).2 r er).2 with ⟨-, y⟩ | ⟨-, y, -⟩
    · rw [er'] at y; exact absurd y (show (0 : Nat) ≠ 4 by decide)
    · rw [r2 _ (by omega)]; exact y
  · intro k hk z
    unfold E0
    rw [if_pos z]
    intro y; cases y
end Settle4
