/-- what run leaves as it was -/
def fU (w R H : Nat) (J J' : Nat → Nat → Int32) : Prop := (∀ r, r < H → r ≠ R → r ≠ w → r < R + 1213 ∨ R + 1226 ≤ r → J' r = J r) ∧ (∀ j, j ≠ 11 → j ≠ 12 → J' w j = J w j) ∧ (∀ j, j ≠ 4 → j ≠ 9 → j ≠ 10 → j ≠ 11 → J' R j = J R j) ∧ J' (R + 1213) 0 = J (R + 1213) 0
theorem fU_r (w R H : Nat) (J : Nat → Nat → Int32) : fU w R H J J := ⟨fun _ _ _ _ _ => rfl, fun _ _ _ => rfl, fun _ _ _ _ _ => rfl, rfl⟩
theorem fU_t {w R H : Nat} {J J1 J2 : Nat → Nat → Int32} (a : fU w R H J J1) (b : fU w R H J1 J2) : fU w R H J J2 := ⟨fun r h1 h2 h3 h4 => (b.1 r h1 h2 h3 h4).trans (a.1 r h1 h2 h3 h4), fun j h1 h2 => (b.2.1 j h1 h2).trans (a.2.1 j h1 h2), fun j h1 h2 h3 h4 => (b.2.2.1 j h1 h2 h3 h4).trans (a.2.2.1 j h1 h2 h3 h4), b.2.2.2.trans a.2.2.2⟩
theorem fU_u {w R H i : Nat} {J : Nat → Nat → Int32} {v : Int32} (hw : w ≠ R) (hi : i = 4 ∨ i = 9 ∨ i = 10 ∨ i = 11) : fU w R H J (xup2 J R i v) := ⟨fun r h1 h2 h3 h4 => xup2_r h2, fun j _ _ => by rw [xup2_r hw], fun j h1 h2 h3 h4 => xup2_n (by omega), by rw [xup2_r (by omega)]⟩
/-- an act upon a slot -/
theorem fU_A {w R H q : Nat} {J J' : Nat → Nat → Int32} (hwR : w + 18 ≤ R) (hRH : R + 1226 ≤ H) (hq : H ≤ q) (h : yoA (R + 1213) q J J') : fU w R H J J' := ⟨fun r h1 h2 h3 h4 => h.1 r (by omega) (by omega), fun j _ _ => by rw [h.1 w (by omega) (by omega)], fun j _ _ _ _ => by rw [h.1 R (by omega) (by omega)], h.2⟩
theorem sg_same {J J' : Nat → Nat → Int32} {w : Nat} (h3 : J' (w + 3) = J (w + 3)) (h4 : J' (w + 4) = J (w + 4)) (h5 : J' (w + 5) = J (w + 5)) : ∀ {L : List St} {i : Nat}, sg J w i L → sg J' w i L
  | [], _, _ => trivial
  | s :: L, i, ⟨⟨a, b, c⟩, d⟩ => ⟨⟨by rw [h3]; exact a, by rw [h4]; exact b, by rw [h5]; exact c⟩, sg_same h3 h4 h5 d⟩
section ExeApp
variable {B : Nat} {C : Nat → Nat} {m : Nat} {E : Nat → Option (Nat × Vl)} {mg : Nat → Nat → Option Nat × Option Nat}
theorem rOk_inj {V V' : List Vl} (h : rOk V = rOk V') : V = V' := congrArg (fun r : Rs => r.2.2.2) h
theorem stp_cases (r : Rs) : r.1 = 0 ∨ r.1 ≠ 0 := by omega
theorem exe_app {L' : List St} : ∀ {L : List St} {V V' : List Vl}, exe B C m E mg L V = rOk V' → exe B C m E mg (L ++ L') V = exe B C m E mg L' V'
  | [], V, V', h => by rw [rOk_inj h]; rfl
  | s :: L, V, V', h => by
    have h' : (if (stp B C m E mg s V).1 = 0 then exe B C m E mg L (stp B C m E mg s V).2.2.2 else stp B C m E mg s V) = rOk V' := h
    show (if (stp B C m E mg s V).1 = 0 then exe B C m E mg (L ++ L') (stp B C m E mg s V).2.2.2 else stp B C m E mg s V) = _
    by_cases z : (stp B C m E mg s V).1 = 0
    · rw [if_pos z] at h' ⊢; exact exe_app h'
    · rw [if_neg z] at h'
      rw [h'] at z
      exact absurd rfl z
theorem exe_snoc {s : St} {L : List St} {V V' V'' : List Vl} (h : exe B C m E mg L V = rOk V') (h' : stp B C m E mg s V' = rOk V'') : exe B C m E mg (L ++ [s]) V = rOk V'' := by
  rw [exe_app h, exe_ok h']; rfl
end ExeApp
section MngN
variable {so ln : Nat → Nat} {nm : Nat → Nat → Nat} {c : Nat} {C : Nat → Nat}
theorem mr_nn {a n : Nat} : ∀ j, (mr so ln nm c C a n j).2 = none → (mr so ln nm c C a n j).1 = none
  | 0, _ => rfl
  | j + 1, h => by
    unfold mr at h ⊢
    split
    · rename_i z; rw [if_pos z] at h; exact mr_nn j h
    · rename_i z; rw [if_neg z] at h; exact absurd (Or.inr h) z
theorem mng_nn {a n : Nat} (h : (mng so ln nm c C a n).2 = none) : (mng so ln nm c C a n).1 = none := by
  unfold mng at h ⊢
  split
  · rename_i z; rw [if_pos z] at h; exact mr_nn _ h
  · rfl
end MngN
section Run2
variable {g : xG} {l : Launch} {h : xH} {J : Nat → Nat → Int32} {Q : Option Value → xH → Prop} {R L L' c w H : Nat} {E : Nat → Option (Nat × Vl)} {so ln np : Nat → Nat} {nm : Nat → Nat → Nat} {T C : Nat → Nat} {m lo B kE : Nat}
theorem c_run {i0 : Nat} {L0 : List St} {U0 W : List Vl} (hU : UC g h w R L L' H) (hE : LE J L E c) (hT : WT J w T) (hN : WN J w so ln np nm T c) (hu : ∀ k k', k < c → k' < c → so k = 2 → so k' = 2 → ln k = ln k' → (∀ i, i < ln k → nm k i = nm k' i) → k = k') (hC : tOk C m) (hm : m ≤ 10240) (hTC : ∀ q, lo ≤ q → q < m → T q = C q) (hCT : CT g h J) (hB : J (R + 1213) 0 = nI B) (hB0 : 16 ≤ B) (hB2 : B ≤ 512) (hkE : kE ≤ 66) (hs : sg J w i0 L0) (hi : i0 + L0.length ≤ 13668) (hd : dk C m lo 66 kE L0 U0.length) (hl : W.length + 67 ≤ 6767) (h4 : J R 4 = nI (U0.length + W.length)) (hSJ : SJ h J R (U0 ++ W))
    (kOk : ∀ h' J' U', hX R h h' → SH h' R H → fU w R H J J' → exe B C m E (mng so ln nm c C) L0 U0 = rOk U' → J' R 10 = nI 0 → J' R 4 = nI (U'.length + W.length) → SJ h' J' R (U' ++ W) → U'.length = kE → Q (some (.int (-1))) (xJ h' J'))
    (kBad : ∀ h' J' f p, hX R h h' → SH h' R H → fU w R H J J' → exe B C m E (mng so ln nm c C) L0 U0 = rBad f p → f ≠ 0 → f < 100 → J' R 10 = nI f → J' R 11 = nI p → SJ h' J' R W → Q (some (.int (-1))) (xJ h' J'))
    (kNeed : ∀ h' J' j L1 L2 U2, hX R h h' → SH h' R H → fU w R H J J' → L0 = L1 ++ L2 → exe B C m E (mng so ln nm c C) L1 U0 = rOk U2 → exe B C m E (mng so ln nm c C) L2 U2 = rNeed j → dk C m lo 66 kE L2 U2.length → U2.length ≤ 66 → j < c → E j = none → J' R 10 = nI 0 → J' R 9 = nI (i0 + L1.length) → J' R 4 = nI (U2.length + W.length) → SJ h' J' R (U2 ++ W) → Q (some (.int (nI j))) (xJ h' J')) : ac g l mX7_run [.ref R, .ref w, .int (nI i0), .int (nI (i0 + L0.length))] (xJ h J) Q := by
  refine ac_of (by decide) (Nat.le_of_ble_eq_true rfl) ?_
  have hc := hN.2.1
  have hwR : w + 18 ≤ R := hU.2.2.2.1
  have hRH : R + 1226 ≤ H := hU.2.2.1.2.1
  have htn : g.2.2.2 < w := hU.2.2.2.2.2.1
  have lay := hU.2.1.2.2.2.2.2.2
  obtain ⟨mg, hmg⟩ : ∃ mg, mg = mng so ln nm c C := ⟨_, rfl⟩
  rw [← hmg] at kOk kBad kNeed
  -- what the rows say later on
  have ctx : ∀ J1 : Nat → Nat → Int32, fU w R H J J1 → LE J1 L E c ∧ WT J1 w T ∧ WN J1 w so ln np nm T c ∧ (∀ h1 : xH, UC g h1 w R L L' H → CT g h1 J1) ∧ J1 (R + 1213) 0 = nI B := by
    intro J1 f
    have rr : ∀ r, r < R + 1209 → r ≠ R → r ≠ w → J1 r = J r := fun r a b d => f.1 r (by omega) b d (by omega)
    refine ⟨fun k hk => ?_, fun q hq => by rw [rr _ (by omega) (by omega) (by omega)]; exact hT q hq, ⟨by rw [f.2.1 9 (by decide) (by decide)]; exact hN.1, hc, fun k hk => ?_⟩, fun h1 u1 => ⟨u1.2.2.2.2.2.2, fun i hi => by rw [rr _ (by omega) (by omega) (by omega)]; exact hCT.2 i hi⟩, f.2.2.2.trans hB⟩
    · obtain ⟨e1, e2⟩ := hE k hk
      rw [rr (L + 3) (by omega) (by omega) (by omega), rr (L + 2) (by omega) (by omega) (by omega)]
      refine ⟨e1, fun r er => ?_⟩
      obtain ⟨e3, e4⟩ := e2 r er
      refine ⟨e3, ?_⟩
      rcases e4 with e4 | ⟨e4, e5, e6⟩
      · exact Or.inl e4
      · exact Or.inr ⟨e4, e5, fun z => ⟨VJ_c (fun q a b => rr q (by omega) (by omega) (by omega)) (e6 z).1, (e6 z).2⟩⟩
    · rw [rr _ (by omega) (by omega) (by omega), rr _ (by omega) (by omega) (by omega), rr _ (by omega) (by omega) (by omega)]
      exact hN.2.2 k hk
  -- a FAULT ends it
  have stop : ∀ (h1 : xH) (J1 : Nat → Nat → Int32) (x y : Int32) (f : Nat) (lv0 : List (Nat × Value)), (xT h1 R).1 = 7 → f ≠ 0 → f < 100 → J1 R 10 = nI f → Q (some (.int (-1))) (xJ h1 J1) → (∀ z ∈ ([(0, .ref R), (3, .int x), (5, .int y)] : List (Nat × Value)), z ∈ lv0) → aw g l mX7_run 18 lv0 [] (xJ h1 J1) Q := by
    intro h1 J1 x y f lv0 t7 hf0 hf1 h10 q hlv
    refine aw_lv hlv ?_
    have out : aw g l mX7_run 382 [(0, .ref R), (3, .int x), (5, .int y)] [] (xJ h1 J1) Q := by
      refine sX7_run_382 ?_
      exact sX7_run_383 q
    refine sX7_run_18 rfl ?_
    refine sX7_run_20 rfl ?_
    refine sX7_run_21 (fun _ => out) (fun _ => ?_)
    refine sX7_run_24 rfl ?_
    refine sX7_run_26 ?_
    refine sX7_run_29 (fun _ => out) (fun _ => ?_)
    refine sX7_run_32 rfl ?_
    refine jX7_run_33 (by assumption) ?_
    rw [h10]
    exact nX7_run_36 (by omega) (fun _ => out) (fun z => absurd z hf0)
  have hne : w ≠ R := by omega
  obtain ⟨t7, -⟩ := id hU.2.1
  obtain ⟨tw, ⟨-, pw1, -⟩, -⟩ := id hU.1.1
  suffices main : ∀ (Ls : List St) (i : Nat) (U : List Vl) (Ld : List St) (h1 : xH) (J1 : Nat → Nat → Int32) (lv0 : List (Nat × Value)), L0 = Ld ++ Ls → i = i0 + Ld.length → exe B C m E mg Ld U0 = rOk U → hX R h h1 → SH h1 R H → fU w R H J J1 → dk C m lo 66 kE Ls U.length → J1 R 4 = nI (U.length + W.length) → J1 R 10 = nI 0 → SJ h1 J1 R (U ++ W) → (∀ z ∈ ([(0, .ref R), (1, .ref w), (3, .int (nI (i0 + L0.length))), (4, .ref (w + 2)), (5, .int (nI i))] : List (Nat × Value)), z ∈ lv0) → aw g l mX7_run 18 lv0 [] (xJ h1 J1) Q by
    refine sX7_run_0 rfl ?_
    refine jX7_run_1 (by assumption) (by assumption) ?_
    refine sX7_run_4 ?_
    refine sX7_run_6 rfl ?_
    refine nX7_run_7 ?_
    refine jX7_run_8 (by assumption) ?_
    refine sX7_run_11 rfl ?_
    refine nX7_run_12 ?_
    refine mX7_run_13n (Nat.le_of_ble_eq_true rfl) (by omega) (by omega) ?_
    rw [Nat.max_eq_left (Nat.zero_le _)]
    refine sX7_run_16 ?_
    refine main L0 i0 U0 [] h _ _ rfl rfl rfl (hX_r R h) hU.2.2.1 (fU_u hne (by decide)) hd (by rw [xup2_n (by decide)]; exact h4) xup2_s ?_ (fun z hz => by simp only [List.mem_cons, List.not_mem_nil, or_false] at hz; rcases hz with rfl | rfl | rfl | rfl | rfl <;> exact xlk_mem rfl)
    have hle : (U0 ++ W).length ≤ 6767 := by
      rw [List.length_append]
      cases L0 with
      | nil => have : U0.length = kE := hd; omega
      | cons s L => have := hd.1; omega
    exact SJ_same (hX_r R h) hU.2.2.1 (fun r a b => xup2_r (by omega)) hle hSJ
  intro Ls
  induction Ls with
  | nil =>
    intro i U Ld h1 J1 lv0 eL ei ex hx sh fu hdk e4 e10 sj hlv
    refine aw_lv hlv ?_
    have hl' : Ld.length = L0.length := by rw [eL, List.append_nil]
    refine sX7_run_18 rfl ?_
    refine sX7_run_20 rfl ?_
    refine nX7_run_21 (by omega) (by omega) (fun _ => ?_) (fun z => absurd z (by omega))
    refine sX7_run_382 ?_
    refine sX7_run_383 (kOk h1 J1 U hx sh fu ?_ e10 e4 sj hdk)
    rw [eL, List.append_nil]; exact ex
  | cons s Ls ih =>
    intro i U Ld h1 J1 lv0 eL ei ex hx sh fu hdk e4 e10 sj hlv
    refine aw_lv hlv ?_
    obtain ⟨hU66, hcase⟩ := hdk
    have hlen : Ld.length + (Ls.length + 1) = L0.length := by rw [eL, List.length_append]; rfl
    have u1 := UC_x hx sh hU
    obtain ⟨cE, cT, cN, cTens, cB⟩ := ctx J1 fu
    obtain ⟨uQ, uR, -, -, -, -, -⟩ := id u1
    obtain ⟨t7, ⟨q0, q1, q2, q3, -⟩, -, hBe, hLd, -, -⟩ := id uR
    obtain ⟨t4, ⟨l0, l1, l2⟩, tv1, tv2, tv3, hval⟩ := id hLd
    obtain ⟨tw, ⟨pt, pw1, -⟩, ttx, -, tc, ⟨c3, c4, c5⟩, s3, s4, s5⟩ := id uQ.1
    have eEx : exe B C m E mg L0 U0 = exe B C m E mg (s :: Ls) U := by rw [eL]; exact exe_app ex
    have hsg : sg J1 w i (s :: Ls) := by
      have a1 : sg J w i0 (Ld ++ s :: Ls) := eL ▸ hs
      have a2 : ∀ {A B : List St} {k : Nat}, sg J w k (A ++ B) → sg J w (k + A.length) B := by
        intro A
        induction A with
        | nil => intro B k z; exact z
        | cons y A ih2 =>
          intro B k z
          have := ih2 z.2
          rw [show k + 1 + A.length = k + (A.length + 1) by omega] at this
          exact this
      rw [ei]
      exact sg_same (fu.1 _ (by omega) (by omega) (by omega) (by omega)) (fu.1 _ (by omega) (by omega) (by omega) (by omega)) (fu.1 _ (by omega) (by omega) (by omega) (by omega)) (a2 a1)
    obtain ⟨⟨g1, g2, g3⟩, -⟩ := hsg
    have hUW : (U ++ W).length = U.length + W.length := List.length_append
    -- the step is done
    have nxt : ∀ (h3 : xH) (J3 : Nat → Nat → Int32) (U' : List Vl) (lv1 : List (Nat × Value)), hX R h h3 → SH h3 R H → fU w R H J J3 → stp B C m E mg s U = rOk U' → dk C m lo 66 kE Ls U'.length → J3 R 4 = nI (U'.length + W.length) → J3 R 10 = nI 0 → SJ h3 J3 R (U' ++ W) → (∀ z ∈ ([(0, .ref R), (1, .ref w), (3, .int (nI (i0 + L0.length))), (4, .ref (w + 2)), (5, .int (nI i))] : List (Nat × Value)), z ∈ lv1) → aw g l mX7_run 376 lv1 [] (xJ h3 J3) Q := by
      intro h3 J3 U' lv1 hx3 sh3 fu3 est hdk3 e43 e103 sj3 hlv1
      refine aw_lv hlv1 ?_
      refine nX7_run_376 rfl ?_
      refine sX7_run_379 ?_
      exact ih (i + 1) U' (Ld ++ [s]) h3 J3 _ (by rw [eL, List.append_assoc]; rfl) (by rw [List.length_append]; show i + 1 = i0 + (Ld.length + 1); omega) (exe_snoc ex est) hx3 sh3 fu3 hdk3 e43 e103 sj3 (fun z hz => by simp only [List.mem_cons, List.not_mem_nil, or_false] at hz; rcases hz with rfl | rfl | rfl | rfl | rfl <;> exact xlk_mem rfl)
    have err : ∀ (h3 : xH) (J3 : Nat → Nat → Int32) (f : Nat) (lv1 : List (Nat × Value)), hX R h h3 → SH h3 R H → fU w R H J J3 → stp B C m E mg s U = rBad f s.2.1 → f ≠ 0 → f < 100 → J3 R 10 = nI f → J3 R 11 = nI s.2.1 → SJ h3 J3 R W → (∀ z ∈ ([(0, .ref R), (1, .ref w), (3, .int (nI (i0 + L0.length))), (4, .ref (w + 2)), (5, .int (nI i))] : List (Nat × Value)), z ∈ lv1) → aw g l mX7_run 376 lv1 [] (xJ h3 J3) Q := by
      intro h3 J3 f lv1 hx3 sh3 fu3 est f0 f1 e103 e113 sj3 hlv1
      refine aw_lv hlv1 ?_
      have u3 := UC_x hx3 sh3 hU
      refine nX7_run_376 rfl ?_
      refine sX7_run_379 ?_
      exact stop h3 J3 _ _ f _ u3.2.1.1 f0 f1 e103 (kBad h3 J3 f s.2.1 hx3 sh3 fu3 (by rw [eEx]; exact exe_bad est) f0 f1 e103 e113 sj3) (fun z hz => by simp only [List.mem_cons, List.not_mem_nil, or_false] at hz; rcases hz with rfl | rfl | rfl <;> exact xlk_mem rfl)
    have sjW : ∀ {V : List Vl} {h3 : xH} {J3 : Nat → Nat → Int32}, SJ h3 J3 R (V ++ W) → SJ h3 J3 R W := by
      intro V
      induction V with
      | nil => intro h3 J3 z; exact z
      | cons y V ih2 => intro h3 J3 z; exact ih2 z.2
    refine sX7_run_18 rfl ?_
    refine sX7_run_20 rfl ?_
    refine nX7_run_21 (by omega) (by omega) (fun z => absurd z (by omega)) (fun _ => ?_)
    refine sX7_run_24 rfl ?_
    refine nX7_run_26 ?_
    refine nX7_run_29 (by omega) (by omega) (fun z => absurd z (by omega)) (fun _ => ?_)
    refine sX7_run_32 rfl ?_
    refine jX7_run_33 (by assumption) ?_
    rw [e10]
    refine nX7_run_36 (by decide) (fun z => absurd rfl z) (fun _ => ?_)
    refine sX7_run_39 rfl ?_
    refine jX7_run_41 (by assumption) (by assumption) ?_
    refine sX7_run_44 rfl ?_
    refine jX7_run_46 (by assumption) (by omega) (by omega) ?_
    rw [g1]
    refine sX7_run_47 ?_
    refine sX7_run_49 rfl ?_
    refine jX7_run_51 (by assumption) (by assumption) ?_
    refine sX7_run_54 rfl ?_
    refine jX7_run_56 (by assumption) (by omega) (by omega) ?_
    rw [g3]
    refine sX7_run_57 ?_
    refine sX7_run_59 rfl ?_
    refine sX7_run_60 rfl ?_
    refine jX7_run_62 (by assumption) (by assumption) ?_
    refine sX7_run_65 rfl ?_
    refine jX7_run_67 (by assumption) (by omega) (by omega) ?_
    rw [g2]
    refine jX7_run_68 (by assumption) ?_
    obtain ⟨J2, hJ2⟩ : ∃ J2, J2 = xup2 J1 R 11 (nI s.2.1) := ⟨_, rfl⟩
    rw [← hJ2]
    have f2 : fU w R H J1 J2 := by rw [hJ2]; exact fU_u hne (by decide)
    have fu2 := fU_t fu f2
    have r2 : ∀ r, r ≠ R → J2 r = J1 r := fun r hr => by rw [hJ2]; exact xup2_r hr
    have e42 : J2 R 4 = nI (U.length + W.length) := by rw [hJ2, xup2_n (by decide)]; exact e4
    have e102 : J2 R 10 = nI 0 := by rw [hJ2, xup2_n (by decide)]; exact e10
    have e112 : J2 R 11 = nI s.2.1 := by rw [hJ2, xup2_s]
    have sj2 : SJ h1 J2 R (U ++ W) := SJ_same (hX_r R h1) sh (fun r a b => r2 r (by omega)) (by omega) sj
    obtain ⟨dE, dT, dN, dTens, dB⟩ := ctx J2 fu2
    have nw : U.length + W.length < 6767 := by omega
    rcases hcase with ⟨hs1, hk2, hdt, hloa, hdk'⟩ | ⟨hs1, hk3, hdt, hloa, hdk'⟩ | ⟨hs1, hpg, hdt, hn1, hdk'⟩ | ⟨hs1, hn1, hdk'⟩ | ⟨hs1, hn2, hdk'⟩
    · -- a NAME
      have hHh := sh.2.2.1
      have ham : s.2.1 < m := tkK_lt (C := C) (by omega)
      have tg := tkT_gt (C := C) ham
      have tl := tkT_le hC (Nat.le_of_lt ham)
      have est : stp B C m E mg s U = sN B E (mg s.2.1 (tkT C m s.2.1 - s.2.1)) s.2.1 U := by
        obtain ⟨s1, s2, s3⟩ := s
        have hs1' : s1 = 2 := hs1
        subst hs1'; exact stp_name
      have emg : mng so ln nm c T s.2.1 (tkT C m s.2.1 - s.2.1) = mg s.2.1 (tkT C m s.2.1 - s.2.1) := by
        rw [hmg]; exact mng_c (fun k hk => hTC _ (by omega) (by omega))
      have lt := mng_lt (so := so) (ln := ln) (nm := nm) (c := c) (C := T) (a := s.2.1) (k := tkT C m s.2.1 - s.2.1)
      have nn := mng_nn (so := so) (ln := ln) (nm := nm) (c := c) (C := T) (a := s.2.1) (n := tkT C m s.2.1 - s.2.1)
      rw [hs1, hdt]
      refine sX7_run_71 rfl ?_
      refine nX7_run_73 ?_
      refine nX7_run_74 (by decide) (by decide) (fun z => absurd rfl z) (fun _ => ?_)
      refine sX7_run_77 rfl ?_
      refine sX7_run_78 rfl ?_
      refine jX7_run_79 (by assumption) ?_
      rw [e112]
      refine sX7_run_82 rfl ?_
      refine jX7_run_84 (Nat.le_of_ble_eq_true rfl) (by assumption) ?_
      refine c_findMeaning uQ.1 dT dN (by omega) (by omega) hu (fun J3 r31 r32 e11 e12 => ?_)
      rw [emg] at e11 e12 lt nn
      obtain ⟨pt', hpt⟩ : ∃ z, z = mg s.2.1 (tkT C m s.2.1 - s.2.1) := ⟨_, rfl⟩
      rw [← hpt] at e11 e12 lt est nn
      obtain ⟨pp, tt⟩ := pt'
      have e11' : J3 w 11 = oI pp := e11
      have e12' : J3 w 12 = oI tt := e12
      have RJ3 : J3 R = J2 R := r31 R (by omega)
      have f3 : fU w R H J2 J3 := ⟨fun r _ _ a3 _ => r31 r a3, fun j a1 a2 => r32 j a1 a2, fun j _ _ _ _ => by rw [RJ3], by rw [r31 _ (by omega)]⟩
      have fu3 := fU_t fu2 f3
      obtain ⟨xE, -, -, -, xB'⟩ := ctx J3 fu3
      have sj3 : SJ h1 J3 R (U ++ W) := SJ_same (hX_r R h1) sh (fun r a b => r31 r (by omega)) (by omega) sj2
      have e43 : J3 R 4 = nI (U.length + W.length) := by rw [RJ3]; exact e42
      have e113 : J3 R 11 = nI s.2.1 := by rw [RJ3]; exact e112
      have e103 : J3 R 10 = nI 0 := by rw [RJ3]; exact e102
      refine sX7_run_87 rfl ?_
      refine jX7_run_88 (by assumption) ?_
      rw [e11']
      refine sX7_run_91 ?_
      refine sX7_run_93 rfl ?_
      refine jX7_run_94 (by assumption) ?_
      rw [e12']
      refine sX7_run_97 ?_
      refine sX7_run_99 rfl ?_
      refine sX7_run_100 rfl ?_
      refine sX7_run_102 rfl ?_
      refine jX7_run_104 (Nat.le_of_ble_eq_true rfl) (by assumption) ?_
      -- one that must come first
      have need : ∀ (j : Nat) (lv1 : List (Nat × Value)), j < c → E j = none → sN B E (pp, tt) s.2.1 U = rNeed j → (∀ z ∈ ([(0, .ref R), (5, .int (nI i))] : List (Nat × Value)), z ∈ lv1) → aw g l mX7_run 107 lv1 [.int (nI j)] (xJ h1 J3) Q := by
        intro j lv1 hj ej esN hlv1
        refine aw_lv hlv1 ?_
        refine sX7_run_107 ?_
        refine sX7_run_109 rfl ?_
        refine sX7_run_111 ?_
        refine sX7_run_112 (fun z => absurd z (oI_neg (by omega))) (fun _ => ?_)
        refine sX7_run_115 rfl ?_
        refine sX7_run_116 rfl ?_
        refine jX7_run_118 (by assumption) ?_
        refine sX7_run_121 rfl ?_
        have fu4 : fU w R H J (xup2 J3 R 9 (nI i)) := fU_t fu3 (fU_u hne (by decide))
        refine sX7_run_123 (kNeed h1 _ j Ld (s :: Ls) U hx sh fu4 eL ex (exe_need (by rw [est]; exact esN)) ⟨hU66, Or.inl ⟨hs1, hk2, hdt, hloa, hdk'⟩⟩ hU66 hj ej ?_ ?_ ?_ ?_)
        · rw [xup2_n (by decide)]; exact e103
        · rw [xup2_s, ei]
        · rw [xup2_n (by decide)]; exact e43
        · exact SJ_same (hX_r R h1) sh (fun r a b => xup2_r (by omega)) (by omega) sj3
      -- a FAULT is found
      have bad : ∀ (f : Nat) (lv1 : List (Nat × Value)), f ≠ 0 → f < 100 → sN B E (pp, tt) s.2.1 U = rBad f s.2.1 → (∀ z ∈ ([(0, .ref R), (1, .ref w), (3, .int (nI (i0 + L0.length))), (4, .ref (w + 2)), (5, .int (nI i))] : List (Nat × Value)), z ∈ lv1) → aw g l mX7_run 133 lv1 [.int (nI f), .ref R] (xJ h1 J3) Q := by
        intro f lv1 f0 f1 esN hlv1
        refine aw_lv hlv1 ?_
        refine jX7_run_133 (by assumption) ?_
        refine sX7_run_136 rfl ?_
        refine jX7_run_137 (by assumption) ?_
        rw [xup2_s]
        refine nX7_run_140 (by omega) (fun _ => ?_) (fun z => absurd z f0)
        refine sX7_run_175 rfl ?_
        refine jX7_run_176 (by assumption) ?_
        rw [xup2_s]
        refine nX7_run_179 (by omega) (fun _ => ?_) (fun z => absurd z f0)
        refine sX7_run_220 rfl ?_
        refine sX7_run_221 rfl ?_
        refine jX7_run_222 (by assumption) ?_
        rw [xup2_n (by decide), e43]
        refine nX7_run_225 ?_
        refine nX7_run_226 ?_
        refine jX7_run_227 (by assumption) ?_
        refine sX7_run_230 ?_
        refine err h1 _ f _ hx sh (fU_t fu3 (fU_t (fU_u hne (by decide)) (fU_u hne (by decide)))) (by rw [est]; exact esN) f0 f1 (by rw [xup2_n (by decide), xup2_s]) (by rw [xup2_n (by decide), xup2_n (by decide)]; exact e113) ?_ (fun z hz => by simp only [List.mem_cons, List.not_mem_nil, or_false] at hz; rcases hz with rfl | rfl | rfl | rfl | rfl <;> exact xlk_mem rfl)
        exact sjW (SJ_same (hX_r R h1) sh (fun r a b => by rw [xup2_r (by omega), xup2_r (by omega)]) (by omega) sj3)
      -- its VALUE is copied
      have copy : ∀ (kk : Nat) (r : Nat × Vl) (lv1 : List (Nat × Value)), kk < c → E kk = some r → r.1 = 0 → (pp = none ∧ tt = some kk ∨ pp = some kk) → (∀ (h5 : xH) (J6 : Nat → Nat → Int32) (q : Nat), hX R h1 h5 → SH h5 R H → fU w R H J J6 → J6 R 4 = nI (U.length + W.length) → J6 R 10 = nI 0 → J6 R 11 = nI s.2.1 → xP h5 (R + 1209) (U.length + W.length) = some q → VJ J6 q r.2 → SJ h5 J6 R (U ++ W) → aw g l mX7_run 175 [(0, .ref R), (1, .ref w), (3, .int (nI (i0 + L0.length))), (4, .ref (w + 2)), (5, .int (nI i)), (8, .int (oI pp)), (9, .int (oI tt))] [] (xJ h5 J6) Q) → (∀ z ∈ ([(0, .ref R), (1, .ref w), (3, .int (nI (i0 + L0.length))), (4, .ref (w + 2)), (5, .int (nI i)), (8, .int (oI pp)), (9, .int (oI tt))] : List (Nat × Value)), z ∈ lv1) → aw g l mX7_run 133 lv1 [.int (nI 0), .ref R] (xJ h1 J3) Q := by
        intro kk r lv1 hkk ekk er hsel kont hlv1
        refine aw_lv hlv1 ?_
        refine jX7_run_133 (by assumption) ?_
        refine sX7_run_136 rfl ?_
        refine jX7_run_137 (by assumption) ?_
        rw [xup2_s]
        refine nX7_run_140 (by decide) (fun z => absurd rfl z) (fun _ => ?_)
        refine sX7_run_143 rfl ?_
        refine sX7_run_144 rfl ?_
        refine jX7_run_145 (by assumption) ?_
        rw [xup2_n (by decide), e43]
        refine jX7_run_148 (Nat.le_of_ble_eq_true rfl) (by assumption) ?_
        refine c_slot sh t7 q3 nw hU.2.2.2.2.1 (fun h5 J5 q hx5 sh5 rJ hq => ?_)
        have u5 := UC_x (hX_t hx hx5) sh5 hU
        obtain ⟨t7', ⟨-, q1', -⟩, -, -, ⟨t4', ⟨l0', -, -⟩, tv', -, -, hval'⟩, -, -⟩ := u5.2.1
        have f5 : fU w R H J3 J5 := ⟨fun r' a1 a2 _ _ => by rw [rJ r' (by omega), xup2_r a2], fun j _ _ => by rw [rJ w (by omega), xup2_r hne], fun j _ _ a3 _ => by rw [rJ R (by omega), xup2_n a3], by rw [rJ _ (by omega), xup2_r (by omega)]⟩
        have fu5 := fU_t fu3 f5
        obtain ⟨yE, -, -, -, -⟩ := ctx J5 fu5
        obtain ⟨sq1, sq2, sq3, sq4⟩ := sh5.2.2.2.1 _ _ nw hq
        obtain ⟨hp1, hp2⟩ := hval' kk (by omega)
        have vin : vp_in (nI kk) 100 := vp_in_nI (by omega) (by decide)
        have cli : (nI kk).toNatClampNeg = kk := nI_clamp (by omega)
        have vk : VJ J5 (L + 4 + 6 * kk) r.2 := by
          rcases ((yE kk hkk).2 r ekk).2 with ⟨-, e4⟩ | ⟨-, -, e5⟩
          · omega
          · exact (e5 er).1
        have fin : ∀ lv2 : List (Nat × Value), (∀ z ∈ ([(0, .ref R), (1, .ref w), (3, .int (nI (i0 + L0.length))), (4, .ref (w + 2)), (5, .int (nI i)), (8, .int (oI pp)), (9, .int (oI tt))] : List (Nat × Value)), z ∈ lv2) → aw g l mX7_run 171 lv2 [.int (nI kk), .ref (L + 1), .ref q] (xJ h5 J5) Q := by
          intro lv2 hlv2
          refine aw_lv hlv2 ?_
          refine sX7_run_171 (by show (xT h5 _).1 = 103; rw [tv']) (by show vp_in _ (xT h5 _).2; rw [tv']; exact vin) (by show xP h5 _ _ = _; rw [cli]; exact hp1) ?_
          have tq := sq3.1
          refine jX7_run_172 (Nat.le_of_ble_eq_true rfl) (by assumption) ?_
          refine c_copy9 sq3 hp2 (by omega) vk (fun J6 y6 v6 => ?_)
          have f6 : fU w R H J5 J6 := ⟨fun r' a1 _ _ _ => y6 r' (by omega), fun j _ _ => by rw [y6 w (by omega)], fun j _ _ _ _ => by rw [y6 R (by omega)], by rw [y6 _ (by omega)]⟩
          have RJ6 : J6 R = xup2 J3 R 10 (nI 0) R := by rw [y6 R (by omega), rJ R (by omega)]
          refine kont h5 J6 q hx5 sh5 (fU_t fu5 f6) ?_ ?_ ?_ hq v6 (SJ_keep (n := U.length + W.length) (q := q) hx5 sh sh5 hq nw (fun r' a1 a2 a3 => ?_) (by omega) sj3)
          · rw [RJ6, xup2_n (by decide)]; exact e43
          · rw [RJ6, xup2_s]
          · rw [RJ6, xup2_n (by decide)]; exact e113
          · rw [y6 r' a3, rJ r' a2, xup2_r (by omega)]
        show aw g l mX7_run 151 _ (.ref q :: []) (xJ h5 J5) Q
        refine sX7_run_151 rfl ?_
        refine jX7_run_152 (by assumption) (by assumption) ?_
        refine jX7_run_155 (by assumption) (by assumption) ?_
        refine sX7_run_158 rfl ?_
        refine sX7_run_160 ?_
        rcases hsel with ⟨s1, s2⟩ | s1
        · subst s1; subst s2
          refine sX7_run_161 (fun z => absurd rfl z) (fun _ => ?_)
          refine sX7_run_164 rfl ?_
          refine sX7_run_166 ?_
          exact fin _ (fun z hz => by simp only [List.mem_cons, List.not_mem_nil, or_false] at hz; rcases hz with rfl | rfl | rfl | rfl | rfl | rfl | rfl <;> exact xlk_mem rfl)
        · subst s1
          refine sX7_run_161 (fun _ => ?_) (fun z => absurd z (oI_neg (by omega)))
          refine sX7_run_169 rfl ?_
          exact fin _ (fun z hz => by simp only [List.mem_cons, List.not_mem_nil, or_false] at hz; rcases hz with rfl | rfl | rfl | rfl | rfl | rfl | rfl <;> exact xlk_mem rfl)
      -- behind firstNeeded where nothing must come first
      have go : ∀ (f : Nat) (lv1 : List (Nat × Value)), (tt = none ∧ f = 5 ∨ (∃ k r k', pp = some k ∧ tt = some k' ∧ E k = some r ∧ r.1 ≠ 0 ∧ f = r.1) ∨ ((pp = none ∨ ∃ k r, pp = some k ∧ E k = some r ∧ r.1 = 0) ∧ ∃ k r, tt = some k ∧ E k = some r ∧ f = r.1)) → aw g l mX7_run 133 [(0, .ref R), (1, .ref w), (3, .int (nI (i0 + L0.length))), (4, .ref (w + 2)), (5, .int (nI i)), (8, .int (oI pp)), (9, .int (oI tt))] [.int (nI f), .ref R] (xJ h1 J3) Q → (∀ z ∈ ([(0, .ref R), (1, .ref w), (3, .int (nI (i0 + L0.length))), (4, .ref (w + 2)), (5, .int (nI i)), (8, .int (oI pp)), (9, .int (oI tt))] : List (Nat × Value)), z ∈ lv1) → aw g l mX7_run 107 lv1 [.int (-1)] (xJ h1 J3) Q := by
        intro f lv1 hf kont hlv1
        refine aw_lv hlv1 ?_
        refine sX7_run_107 ?_
        refine sX7_run_109 rfl ?_
        refine sX7_run_111 ?_
        refine sX7_run_112 (fun _ => ?_) (fun z => absurd rfl z)
        refine sX7_run_124 rfl ?_
        refine sX7_run_125 rfl ?_
        refine sX7_run_126 rfl ?_
        refine sX7_run_128 rfl ?_
        refine jX7_run_130 (Nat.le_of_ble_eq_true rfl) (by assumption) ?_
        refine c_faultOfMeaning uR xE hc (fun k e => lt.1 k e) (fun k e => lt.2 k e) hf ?_
        exact aw_lv (fun z hz => by simp only [List.mem_cons, List.not_mem_nil, or_false] at hz; rcases hz with rfl | rfl | rfl | rfl | rfl | rfl | rfl <;> exact xlk_mem rfl) kont
      cases tt with
      | none =>
        have ep : pp = none := nn rfl
        subst ep
        refine c_firstNeeded (x := -1) uR xE hc (fun k e => lt.1 k e) (fun k e => lt.2 k e) (Or.inr (Or.inr ⟨Or.inl rfl, Or.inr (Or.inr ⟨rfl, rfl⟩)⟩)) ?_
        exact go 5 _ (Or.inl ⟨rfl, rfl⟩) (bad 5 _ (by decide) (by decide) rfl (fun z hz => by simp only [List.mem_cons, List.not_mem_nil, or_false] at hz; rcases hz with rfl | rfl | rfl | rfl | rfl <;> exact xlk_mem rfl)) (fun z hz => by simp only [List.mem_cons, List.not_mem_nil, or_false] at hz; rcases hz with rfl | rfl | rfl | rfl | rfl | rfl | rfl <;> exact xlk_mem rfl)
      | some t =>
        have ht := lt.2 t rfl
        cases pp with
        | none =>
          cases eE : E t with
          | none =>
            refine c_firstNeeded (x := nI t) uR xE hc (fun k e => lt.1 k e) (fun k e => lt.2 k e) (Or.inr (Or.inr ⟨Or.inl rfl, Or.inl ⟨t, rfl, eE, rfl⟩⟩)) ?_
            exact need t _ ht eE (sN_a eE) (fun z hz => by simp only [List.mem_cons, List.not_mem_nil, or_false] at hz; rcases hz with rfl | rfl <;> exact xlk_mem rfl)
          | some r =>
            have r100 := ((xE t ht).2 r eE).1
            refine c_firstNeeded (x := -1) uR xE hc (fun k e => lt.1 k e) (fun k e => lt.2 k e) (Or.inr (Or.inr ⟨Or.inl rfl, Or.inr (Or.inl ⟨t, r, rfl, eE, rfl⟩)⟩)) ?_
            refine go r.1 _ (Or.inr (Or.inr ⟨Or.inl rfl, t, r, rfl, eE, rfl⟩)) ?_ (fun z hz => by simp only [List.mem_cons, List.not_mem_nil, or_false] at hz; rcases hz with rfl | rfl | rfl | rfl | rfl | rfl | rfl <;> exact xlk_mem rfl)
            by_cases z0 : r.1 = 0
            · rw [z0]
              have wr : vWf r.2 := by
                rcases ((xE t ht).2 r eE).2 with ⟨-, e4⟩ | ⟨-, -, e5⟩
                · omega
                · exact (e5 z0).2
              refine copy t r _ ht eE z0 (Or.inl ⟨rfl, rfl⟩) (fun h5 J6 q hx5 sh5 fu6 e46 e106 e116 hq vq sj6 => ?_) (fun z hz => by simp only [List.mem_cons, List.not_mem_nil, or_false] at hz; rcases hz with rfl | rfl | rfl | rfl | rfl | rfl | rfl <;> exact xlk_mem rfl)
              have t7' := (UC_x (hX_t hx hx5) sh5 hU).2.1.1
              refine sX7_run_175 rfl ?_
              refine jX7_run_176 (by assumption) ?_
              rw [e106]
              refine nX7_run_179 (by decide) (fun z => absurd rfl z) (fun _ => ?_)
              refine sX7_run_182 rfl ?_
              refine sX7_run_184 ?_
              refine sX7_run_185 (fun _ => ?_) (fun z => absurd rfl z)
              refine sX7_run_220 rfl ?_
              refine sX7_run_221 rfl ?_
              refine jX7_run_222 (by assumption) ?_
              rw [e46]
              refine nX7_run_225 ?_
              refine nX7_run_226 ?_
              refine jX7_run_227 (by assumption) ?_
              refine sX7_run_230 ?_
              refine nxt h5 _ (r.2 :: U) _ (hX_t hx hx5) sh5 (fU_t fu6 (fU_u hne (by decide))) (by rw [est, sN_b eE, rFin_0 z0]) hdk' ?_ (by rw [xup2_n (by decide)]; exact e106) ⟨⟨q, ?_, VJ_c (fun r' a1 a2 => ?_) vq, wr⟩, SJ_same (V := U ++ W) (hX_r R h5) sh5 (fun r' a b => xup2_r (by omega)) (by omega) sj6⟩ (fun z hz => by simp only [List.mem_cons, List.not_mem_nil, or_false] at hz; rcases hz with rfl | rfl | rfl | rfl | rfl <;> exact xlk_mem rfl)
              · rw [xup2_s]; show nI (U.length + W.length + 1) = nI (U.length + 1 + W.length); rw [show U.length + W.length + 1 = U.length + 1 + W.length by omega]
              · show xP h5 (R + 1209) (U ++ W).length = some q; rw [hUW]; exact hq
              · have := (sh5.2.2.2.1 _ _ nw hq).1
                exact xup2_r (by omega)
            · exact bad r.1 _ z0 r100 (by rw [sN_b eE, rFin_1 z0]) (fun z hz => by simp only [List.mem_cons, List.not_mem_nil, or_false] at hz; rcases hz with rfl | rfl | rfl | rfl | rfl <;> exact xlk_mem rfl)
        | some k =>
          have hk := lt.1 k rfl
          cases eK : E k with
          | none =>
            refine c_firstNeeded (x := nI k) uR xE hc (fun k e => lt.1 k e) (fun k e => lt.2 k e) (Or.inl ⟨k, rfl, eK, rfl⟩) ?_
            exact need k _ hk eK (sN_c eK) (fun z hz => by simp only [List.mem_cons, List.not_mem_nil, or_false] at hz; rcases hz with rfl | rfl <;> exact xlk_mem rfl)
          | some r =>
            have r100 := ((xE k hk).2 r eK).1
            by_cases z0 : r.1 = 0
            · have wr : vWf r.2 := by
                rcases ((xE k hk).2 r eK).2 with ⟨-, e4⟩ | ⟨-, -, e5⟩
                · omega
                · exact (e5 z0).2
              cases eE : E t with
              | none =>
                refine c_firstNeeded (x := nI t) uR xE hc (fun k e => lt.1 k e) (fun k e => lt.2 k e) (Or.inr (Or.inr ⟨Or.inr ⟨k, r, rfl, eK, z0⟩, Or.inl ⟨t, rfl, eE, rfl⟩⟩)) ?_
                exact need t _ ht eE (sN_e eK z0 eE) (fun z hz => by simp only [List.mem_cons, List.not_mem_nil, or_false] at hz; rcases hz with rfl | rfl <;> exact xlk_mem rfl)
              | some r' =>
                have r100' := ((xE t ht).2 r' eE).1
                refine c_firstNeeded (x := -1) uR xE hc (fun k e => lt.1 k e) (fun k e => lt.2 k e) (Or.inr (Or.inr ⟨Or.inr ⟨k, r, rfl, eK, z0⟩, Or.inr (Or.inl ⟨t, r', rfl, eE, rfl⟩)⟩)) ?_
                refine go r'.1 _ (Or.inr (Or.inr ⟨Or.inr ⟨k, r, rfl, eK, z0⟩, t, r', rfl, eE, rfl⟩)) ?_ (fun z hz => by simp only [List.mem_cons, List.not_mem_nil, or_false] at hz; rcases hz with rfl | rfl | rfl | rfl | rfl | rfl | rfl <;> exact xlk_mem rfl)
                by_cases z1 : r'.1 = 0
                · rw [z1]
                  refine copy k r _ hk eK z0 (Or.inr rfl) (fun h5 J6 q hx5 sh5 fu6 e46 e106 e116 hq vq sj6 => ?_) (fun z hz => by simp only [List.mem_cons, List.not_mem_nil, or_false] at hz; rcases hz with rfl | rfl | rfl | rfl | rfl | rfl | rfl <;> exact xlk_mem rfl)
                  have u5 := UC_x (hX_t hx hx5) sh5 hU
                  obtain ⟨t7', ⟨q0', q1', -, q3', -⟩, -, hBe', ⟨t4', ⟨l0', -, -⟩, tv', -, -, hval'⟩, -, -⟩ := id u5.2.1
                  obtain ⟨yE, -, -, -, yB⟩ := ctx J6 fu6
                  obtain ⟨sq1, sq2, sq3, sq4⟩ := sh5.2.2.2.1 _ _ nw hq
                  obtain ⟨hp1, hp2⟩ := hval' t (by omega)
                  have vin : vp_in (nI t) 100 := vp_in_nI (by omega) (by decide)
                  have cli : (nI t).toNatClampNeg = t := nI_clamp (by omega)
                  have vt : VJ J6 (L + 4 + 6 * t) r'.2 ∧ vWf r'.2 := by
                    rcases ((yE t ht).2 r' eE).2 with ⟨-, e4⟩ | ⟨-, -, e5⟩
                    · omega
                    · exact e5 z1
                  have esf : stp B C m E mg s U = rFin (vMul B r.2 r'.2) s.2.1 U := by rw [est, sN_f eK z0 eE, if_pos z1]
                  have cb := cd_mul (B := B) (x := r.2) (y := r'.2)
                  have t0 := hBe'.1
                  refine sX7_run_175 rfl ?_
                  refine jX7_run_176 (by assumption) ?_
                  rw [e106]
                  refine nX7_run_179 (by decide) (fun z => absurd rfl z) (fun _ => ?_)
                  refine sX7_run_182 rfl ?_
                  refine sX7_run_184 ?_
                  refine sX7_run_185 (fun z => absurd z (oI_neg (by omega))) (fun _ => ?_)
                  refine sX7_run_188 rfl ?_
                  refine sX7_run_189 rfl ?_
                  refine jX7_run_190 (by assumption) (by assumption) ?_
                  refine nX7_run_193 ?_
                  refine nX7_run_195 ?_
                  refine sX7_run_196 rfl ?_
                  refine sX7_run_197 rfl ?_
                  refine jX7_run_198 (by assumption) ?_
                  rw [e46]
                  refine jX7_run_201 (Nat.le_of_ble_eq_true rfl) (by assumption) ?_
                  refine c_slotS sh5 t7' q3' nw hq ?_
                  show aw g l mX7_run 204 _ (.ref q :: .int (nI 0) :: .int (nI 14) :: .ref (R + 1213) :: .ref R :: []) (xJ h5 J6) Q
                  refine sX7_run_204 rfl ?_
                  refine jX7_run_205 (by assumption) (by assumption) ?_
                  refine jX7_run_208 (by assumption) (by assumption) ?_
                  refine sX7_run_211 (x := nI t) rfl ?_
                  refine sX7_run_213 (by show (xT h5 _).1 = 103; rw [tv']) (by show vp_in _ (xT h5 _).2; rw [tv']; exact vin) (by show xP h5 _ _ = _; rw [cli]; exact hp1) ?_
                  refine jX7_run_214 (Nat.le_of_ble_eq_true rfl) (by assumption) ?_
                  refine c_actMul hBe' sq3 hp2 (by omega) vq vt.1 wr vt.2 yB hB2 (fun J7 y7 v7 => ?_)
                  have f7 := fU_A (w := w) hwR hRH sq1 y7
                  have RJ7 : J7 R = J6 R := y7.1 R (by omega) (by omega)
                  refine jX7_run_217 (by assumption) ?_
                  refine sX7_run_220 rfl ?_
                  refine sX7_run_221 rfl ?_
                  refine jX7_run_222 (by assumption) ?_
                  rw [xup2_n (by decide), RJ7, e46]
                  refine nX7_run_225 ?_
                  refine nX7_run_226 ?_
                  refine jX7_run_227 (by assumption) ?_
                  refine sX7_run_230 ?_
                  generalize hJ8 : xup2 (xup2 J7 R 10 (nI (vMul B r.2 r'.2).1)) R 4 (nI (U.length + W.length + 1)) = J8
                  have r8 : ∀ r', r' ≠ R → J8 r' = J7 r' := fun r' hr => by rw [← hJ8, xup2_r hr, xup2_r hr]
                  have fu8 : fU w R H J J8 := by rw [← hJ8]; exact fU_t (fU_t fu6 f7) (fU_t (fU_u hne (by decide)) (fU_u hne (by decide)))
                  have sj8 : SJ h5 J8 R (U ++ W) := by
                    refine SJ_keep (n := U.length + W.length) (q := q) (hX_r R h5) sh5 sh5 hq nw (fun r' a1 a2 a3 => ?_) (by omega) sj6
                    rw [r8 r' (by omega), y7.1 r' (by omega) a3]
                  by_cases z2 : (vMul B r.2 r'.2).1 = 0
                  · rw [rFin_0 z2] at esf
                    refine nxt h5 J8 _ _ (hX_t hx hx5) sh5 fu8 esf hdk' ?_ ?_ ⟨⟨q, ?_, VJ_c (fun r' a1 a2 => r8 r' (by omega)) (v7 z2), vWf_mul hB2 wr vt.2 z2⟩, sj8⟩ (fun z hz => by simp only [List.mem_cons, List.not_mem_nil, or_false] at hz; rcases hz with rfl | rfl | rfl | rfl | rfl <;> exact xlk_mem rfl)
                    · rw [← hJ8, xup2_s]; show nI (U.length + W.length + 1) = nI (U.length + 1 + W.length); rw [show U.length + W.length + 1 = U.length + 1 + W.length by omega]
                    · rw [← hJ8, xup2_n (by decide), xup2_s, z2]
                    · show xP h5 (R + 1209) (U ++ W).length = some q; rw [hUW]; exact hq
                  · rw [rFin_1 z2] at esf
                    exact err h5 J8 _ _ (hX_t hx hx5) sh5 fu8 esf z2 (by omega) (by rw [← hJ8, xup2_n (by decide), xup2_s]) (by rw [← hJ8, xup2_n (by decide), xup2_n (by decide), RJ7]; exact e116) (sjW sj8) (fun z hz => by simp only [List.mem_cons, List.not_mem_nil, or_false] at hz; rcases hz with rfl | rfl | rfl | rfl | rfl <;> exact xlk_mem rfl)
                · exact bad r'.1 _ z1 r100' (by rw [sN_f eK z0 eE, if_neg z1]) (fun z hz => by simp only [List.mem_cons, List.not_mem_nil, or_false] at hz; rcases hz with rfl | rfl | rfl | rfl | rfl <;> exact xlk_mem rfl)
            · refine c_firstNeeded (x := -1) uR xE hc (fun k e => lt.1 k e) (fun k e => lt.2 k e) (Or.inr (Or.inl ⟨k, r, rfl, eK, z0, rfl⟩)) ?_
              exact go r.1 _ (Or.inr (Or.inl ⟨k, r, t, rfl, rfl, eK, z0, rfl⟩)) (bad r.1 _ z0 r100 (sN_d eK z0) (fun z hz => by simp only [List.mem_cons, List.not_mem_nil, or_false] at hz; rcases hz with rfl | rfl | rfl | rfl | rfl <;> exact xlk_mem rfl)) (fun z hz => by simp only [List.mem_cons, List.not_mem_nil, or_false] at hz; rcases hz with rfl | rfl | rfl | rfl | rfl | rfl | rfl <;> exact xlk_mem rfl)
    · -- a NUMBER
      rw [hs1, hdt]
      refine sX7_run_71 rfl ?_
      refine nX7_run_73 ?_
      refine nX7_run_74 (by decide) (by decide) (fun _ => ?_) (fun z => absurd z (by decide))
      refine sX7_run_233 rfl ?_
      refine nX7_run_235 ?_
      refine nX7_run_236 (by decide) (by decide) (fun z => absurd rfl z) (fun _ => ?_)
      have est : stp B C m E mg s U = rFin (nuV B C m s.2.1) s.2.1 U := by
        obtain ⟨s1, s2, s3⟩ := s
        have hs1' : s1 = 3 := hs1
        subst hs1'; exact stp_num
      have cb := cd_num (B := B) (C := C) (m := m) (a := s.2.1)
      obtain ⟨ham, -, -, -, eT⟩ := nt_a hk3
      refine sX7_run_239 rfl ?_
      refine sX7_run_240 rfl ?_
      refine jX7_run_241 (by assumption) (by assumption) ?_
      refine sX7_run_244 rfl ?_
      refine jX7_run_245 (by assumption) (by assumption) ?_
      refine sX7_run_248 rfl ?_
      refine jX7_run_249 (by assumption) ?_
      rw [e112]
      refine sX7_run_252 rfl ?_
      refine sX7_run_254 rfl ?_
      refine sX7_run_255 rfl ?_
      refine jX7_run_256 (by assumption) ?_
      rw [e42]
      refine jX7_run_259 (Nat.le_of_ble_eq_true rfl) (by assumption) ?_
      refine c_slot sh t7 q3 nw hU.2.2.2.2.1 (fun h3 J3 q hx3 sh3 rJ hq => ?_)
      have u3 := UC_x (hX_t hx hx3) sh3 hU
      have hHh := sh.2.2.1
      have t0 := u3.2.1.2.2.2.1.1
      have f3 : fU w R H J2 J3 := ⟨fun r a1 _ _ _ => rJ r (by omega), fun j _ _ => by rw [rJ w (by omega)], fun j _ _ _ _ => by rw [rJ R (by omega)], by rw [rJ _ (by omega)]⟩
      have fu3 := fU_t fu2 f3
      obtain ⟨xE, xT', xN, xTens, xB'⟩ := ctx J3 fu3
      obtain ⟨sq1, sq2, sq3, sq4⟩ := sh3.2.2.2.1 _ _ nw hq
      show aw g l mX7_run 262 _ (.ref q :: .int (tlen C m s.2.1) :: .int (nI s.2.1) :: .ref (w + 1) :: .ref (R + 1213) :: .ref R :: []) (xJ h3 J3) Q
      refine jX7_run_262 (Nat.le_of_ble_eq_true rfl) (by assumption) ?_
      have elen : tlen C m s.2.1 = nI (nu3 C m s.2.1 - s.2.1) := by unfold tlen; rw [eT]
      rw [elen]
      refine c_readNumber u3.2.1.2.2.2.1 sq3 (xTens h3 u3) u3.1.1.2.2.1 hC hm hk3 (fun p a1 a2 => ?_) xB' hB2 (fun J4 y4 v4 => ?_)
      · rw [(xT' p (by omega)).1, hTC p (by omega) a2]
      have t7' := u3.2.1.1
      have f4 := fU_A (w := w) hwR hRH sq1 y4
      have RJ4 : J4 R = J3 R := y4.1 R (by omega) (by omega)
      have e44 : J4 R 4 = nI (U.length + W.length) := by rw [RJ4, rJ R (by omega)]; exact e42
      have e114 : J4 R 11 = nI s.2.1 := by rw [RJ4, rJ R (by omega)]; exact e112
      refine jX7_run_265 (by assumption) ?_
      refine sX7_run_268 rfl ?_
      refine sX7_run_269 rfl ?_
      refine jX7_run_270 (by assumption) ?_
      rw [xup2_n (by decide), e44]
      refine nX7_run_273 ?_
      refine nX7_run_274 ?_
      refine jX7_run_275 (by assumption) ?_
      refine sX7_run_278 ?_
      generalize hJ5 : xup2 (xup2 J4 R 10 (nI (nuV B C m s.2.1).1)) R 4 (nI (U.length + W.length + 1)) = J5
      have r5 : ∀ r, r ≠ R → J5 r = J4 r := fun r hr => by rw [← hJ5, xup2_r hr, xup2_r hr]
      have fu5 : fU w R H J J5 := by
        rw [← hJ5]; exact fU_t (fU_t fu3 f4) (fU_t (fU_u hne (by decide)) (fU_u hne (by decide)))
      have sj5 : SJ h3 J5 R (U ++ W) := by
        refine SJ_keep (n := U.length + W.length) (q := q) hx3 sh sh3 hq nw (fun r a1 a2 a3 => ?_) (by omega) sj2
        rw [r5 r (by omega), y4.1 r (by omega) a3, rJ r a2]
      by_cases z0 : (nuV B C m s.2.1).1 = 0
      · rw [rFin_0 z0] at est
        refine nxt h3 J5 _ _ (hX_t hx hx3) sh3 fu5 est hdk' ?_ ?_ ⟨⟨q, ?_, VJ_c (fun r a1 a2 => r5 r (by omega)) (v4 z0), vWf_num hB2 z0⟩, sj5⟩ (fun z hz => by simp only [List.mem_cons, List.not_mem_nil, or_false] at hz; rcases hz with rfl | rfl | rfl | rfl | rfl <;> exact xlk_mem rfl)
        · rw [← hJ5, xup2_s]; show nI (U.length + W.length + 1) = nI (U.length + 1 + W.length); rw [show U.length + W.length + 1 = U.length + 1 + W.length by omega]
        · rw [← hJ5, xup2_n (by decide), xup2_s, z0]
        · show xP h3 (R + 1209) (U ++ W).length = some q; rw [hUW]; exact hq
      · rw [rFin_1 z0] at est
        exact err h3 J5 _ _ (hX_t hx hx3) sh3 fu5 est z0 (by omega) (by rw [← hJ5, xup2_n (by decide), xup2_s]) (by rw [← hJ5, xup2_n (by decide), xup2_n (by decide)]; exact e114) (sjW sj5) (fun z hz => by simp only [List.mem_cons, List.not_mem_nil, or_false] at hz; rcases hz with rfl | rfl | rfl | rfl | rfl <;> exact xlk_mem rfl)
    · -- a POWER
      cases U with
      | nil => exact absurd hn1 (by decide)
      | cons x U =>
      have hU' : U.length + 1 ≤ 66 := hU66
      obtain ⟨⟨q, hq, vq, wq⟩, sjr⟩ := sj2
      have hUW' : (U.append W).length = U.length + W.length := List.length_append
      rw [hUW'] at hq
      have e42' : J2 R 4 = nI (U.length + 1 + W.length) := e42
      have nw' : U.length + W.length < 6767 := by omega
      have hn99 : pn C m s.2.1 ≤ 99 := hpg.2.2
      have est : stp B C m E mg s (x :: U) = rFin (vPow B x (pn C m s.2.1) (pb C m s.2.1) (pv C m s.2.1)) s.2.1 U := by
        obtain ⟨s1, s2, s3⟩ := s
        have hs1' : s1 = 17 := hs1
        subst hs1'; exact stp_pow
      have cb := cd_pow (B := B) (x := x) (k := pn C m s.2.1) (ng := pb C m s.2.1) (n := pv C m s.2.1)
      obtain ⟨sq1, sq2, sq3, sq4⟩ := sh.2.2.2.1 _ _ nw' hq
      have t0 := hBe.1
      have ehd : U.length + 1 + W.length - 1 = U.length + W.length := by omega
      rw [hs1, hdt]
      refine sX7_run_71 rfl ?_
      refine nX7_run_73 ?_
      refine nX7_run_74 (by decide) (by decide) (fun _ => ?_) (fun z => absurd z (by decide))
      refine sX7_run_233 rfl ?_
      refine nX7_run_235 ?_
      refine nX7_run_236 (by decide) (by decide) (fun _ => ?_) (fun z => absurd z (by decide))
      refine sX7_run_281 rfl ?_
      refine nX7_run_283 ?_
      refine nX7_run_285 (by decide) (by decide) (fun z => absurd z (by decide)) (fun _ => ?_)
      refine sX7_run_288 rfl ?_
      refine nX7_run_290 ?_
      refine nX7_run_292 (by decide) (by decide) (fun z => absurd rfl z) (fun _ => ?_)
      refine sX7_run_295 rfl ?_
      refine sX7_run_296 rfl ?_
      refine jX7_run_297 (by assumption) (by assumption) ?_
      refine sX7_run_300 rfl ?_
      refine sX7_run_302 rfl ?_
      refine sX7_run_304 rfl ?_
      refine sX7_run_305 rfl ?_
      refine jX7_run_306 (by assumption) ?_
      rw [e42']
      refine nX7_run_309 ?_
      refine nX7_run_310 (by omega) ?_
      rw [ehd]
      refine jX7_run_311 (Nat.le_of_ble_eq_true rfl) (by assumption) ?_
      refine c_slotS sh t7 q3 nw' hq ?_
      refine sX7_run_314 rfl ?_
      refine sX7_run_315 rfl ?_
      refine jX7_run_316 (by assumption) ?_
      rw [e42']
      refine nX7_run_319 ?_
      refine nX7_run_320 (by omega) ?_
      rw [ehd]
      refine jX7_run_321 (Nat.le_of_ble_eq_true rfl) (by assumption) ?_
      refine c_slotS sh t7 q3 nw' hq ?_
      show aw g l mX7_run 324 _ (.ref q :: .ref q :: .int (pv C m s.2.1) :: .int (nI 17) :: .ref (R + 1213) :: .ref R :: []) (xJ h1 J2) Q
      refine jX7_run_324 (Nat.le_of_ble_eq_true rfl) (by assumption) ?_
      refine c_actRaise hBe sq3 vq wq dB (by omega) hB2 hn99 pb_pv (fun J4 y4 v4 => ?_)
      have f4 := fU_A (w := w) hwR hRH sq1 y4
      have RJ4 : J4 R = J2 R := y4.1 R (by omega) (by omega)
      refine jX7_run_327 (by assumption) ?_
      refine sX7_run_330 ?_
      generalize hJ5 : xup2 J4 R 10 (nI (vPow B x (pn C m s.2.1) (pb C m s.2.1) (pv C m s.2.1)).1) = J5
      have r5 : ∀ r, r ≠ R → J5 r = J4 r := fun r hr => by rw [← hJ5, xup2_r hr]
      have fu5 : fU w R H J J5 := by rw [← hJ5]; exact fU_t (fU_t fu2 f4) (fU_u hne (by decide))
      have sj5 : SJ h1 J5 R (U ++ W) := by
        refine SJ_keep (n := U.length + W.length) (q := q) (hX_r R h1) sh sh hq nw' (fun r a1 a2 a3 => ?_) (by rw [List.length_append]; omega) sjr
        rw [r5 r (by omega), y4.1 r (by omega) a3]
      by_cases z0 : (vPow B x (pn C m s.2.1) (pb C m s.2.1) (pv C m s.2.1)).1 = 0
      · rw [rFin_0 z0] at est
        refine nxt h1 J5 _ _ hx sh fu5 est hdk' ?_ ?_ ⟨⟨q, ?_, VJ_c (fun r a1 a2 => r5 r (by omega)) (v4 z0), vWf_pow (by omega) hB2 wq (fun z => by rcases pb_pv (C := C) (m := m) (a := s.2.1) with u | u; rw [u.1] at z; cases z; exact u.2.1) z0⟩, sj5⟩ (fun z hz => by simp only [List.mem_cons, List.not_mem_nil, or_false] at hz; rcases hz with rfl | rfl | rfl | rfl | rfl <;> exact xlk_mem rfl)
        · rw [← hJ5, xup2_n (by decide), RJ4]; exact e42'
        · rw [← hJ5, xup2_s, z0]
        · show xP h1 (R + 1209) (U.append W).length = some q; rw [hUW']; exact hq
      · rw [rFin_1 z0] at est
        exact err h1 J5 _ _ hx sh fu5 est z0 (by omega) (by rw [← hJ5, xup2_s]) (by rw [← hJ5, xup2_n (by decide), RJ4]; exact e112) (sjW sj5) (fun z hz => by simp only [List.mem_cons, List.not_mem_nil, or_false] at hz; rcases hz with rfl | rfl | rfl | rfl | rfl <;> exact xlk_mem rfl)
    · -- a - ahead
      cases U with
      | nil => exact absurd hn1 (by decide)
      | cons x U =>
      have hU' : U.length + 1 ≤ 66 := hU66
      obtain ⟨⟨q, hq, vq, wq⟩, sjr⟩ := sj2
      have hUW' : (U.append W).length = U.length + W.length := List.length_append
      rw [hUW'] at hq
      have e42' : J2 R 4 = nI (U.length + 1 + W.length) := e42
      have nw' : U.length + W.length < 6767 := by omega
      have est : stp B C m E mg s (x :: U) = rOk (vS x (-x.1) :: U) := by
        obtain ⟨s1, s2, s3⟩ := s
        have hs1' : s1 = 13 := hs1
        subst hs1'; exact stp_neg
      obtain ⟨sq1, sq2, sq3, sq4⟩ := sh.2.2.2.1 _ _ nw' hq
      have t0 := hBe.1
      have ehd : U.length + 1 + W.length - 1 = U.length + W.length := by omega
      rw [hs1]
      refine sX7_run_71 rfl ?_
      refine nX7_run_73 ?_
      refine nX7_run_74 (by decide) (by decide) (fun _ => ?_) (fun z => absurd z (by decide))
      refine sX7_run_233 rfl ?_
      refine nX7_run_235 ?_
      refine nX7_run_236 (by decide) (by decide) (fun _ => ?_) (fun z => absurd z (by decide))
      refine sX7_run_281 rfl ?_
      refine nX7_run_283 ?_
      refine nX7_run_285 (by decide) (by decide) (fun _ => ?_) (fun z => absurd rfl z)
      refine sX7_run_295 rfl ?_
      refine sX7_run_296 rfl ?_
      refine jX7_run_297 (by assumption) (by assumption) ?_
      refine sX7_run_300 rfl ?_
      refine sX7_run_302 rfl ?_
      refine sX7_run_304 rfl ?_
      refine sX7_run_305 rfl ?_
      refine jX7_run_306 (by assumption) ?_
      rw [e42']
      refine nX7_run_309 ?_
      refine nX7_run_310 (by omega) ?_
      rw [ehd]
      refine jX7_run_311 (Nat.le_of_ble_eq_true rfl) (by assumption) ?_
      refine c_slotS sh t7 q3 nw' hq ?_
      refine sX7_run_314 rfl ?_
      refine sX7_run_315 rfl ?_
      refine jX7_run_316 (by assumption) ?_
      rw [e42']
      refine nX7_run_319 ?_
      refine nX7_run_320 (by omega) ?_
      rw [ehd]
      refine jX7_run_321 (Nat.le_of_ble_eq_true rfl) (by assumption) ?_
      refine c_slotS sh t7 q3 nw' hq ?_
      show aw g l mX7_run 324 _ (.ref q :: .ref q :: .int s.2.2 :: .int (nI 13) :: .ref (R + 1213) :: .ref R :: []) (xJ h1 J2) Q
      refine jX7_run_324 (Nat.le_of_ble_eq_true rfl) (by assumption) ?_
      refine c_actNeg (B := B) hBe sq3 vq (fun J4 y4 v4 => ?_)
      have f4 : fU w R H J2 J4 := ⟨fun r a1 _ _ _ => y4 r (by omega), fun j _ _ => by rw [y4 w (by omega)], fun j _ _ _ _ => by rw [y4 R (by omega)], by rw [y4 _ (by omega)]⟩
      have RJ4 : J4 R = J2 R := y4 R (by omega)
      refine jX7_run_327 (by assumption) ?_
      refine sX7_run_330 ?_
      generalize hJ5 : xup2 J4 R 10 (nI 0) = J5
      have r5 : ∀ r, r ≠ R → J5 r = J4 r := fun r hr => by rw [← hJ5, xup2_r hr]
      have fu5 : fU w R H J J5 := by rw [← hJ5]; exact fU_t (fU_t fu2 f4) (fU_u hne (by decide))
      have sj5 : SJ h1 J5 R (U ++ W) := by
        refine SJ_keep (n := U.length + W.length) (q := q) (hX_r R h1) sh sh hq nw' (fun r a1 a2 a3 => ?_) (by rw [List.length_append]; omega) sjr
        rw [r5 r (by omega), y4 r (by omega)]
      refine nxt h1 J5 _ _ hx sh fu5 est hdk' ?_ ?_ ⟨⟨q, ?_, VJ_c (fun r a1 a2 => r5 r (by omega)) v4, vWf_neg wq⟩, sj5⟩ (fun z hz => by simp only [List.mem_cons, List.not_mem_nil, or_false] at hz; rcases hz with rfl | rfl | rfl | rfl | rfl <;> exact xlk_mem rfl)
      · rw [← hJ5, xup2_n (by decide), RJ4]; exact e42'
      · rw [← hJ5, xup2_s]
      · show xP h1 (R + 1209) (U.append W).length = some q; rw [hUW']; exact hq
    · -- two VALUES
      cases U with
      | nil => exact absurd hn2 (by decide)
      | cons y U =>
      cases U with
      | nil => exact absurd hn2 (show ¬ 2 ≤ 1 by decide)
      | cons x U =>
      have hU' : U.length + 1 + 1 ≤ 66 := hU66
      obtain ⟨⟨p, hp, vp, wp⟩, ⟨q, hq, vq, wq⟩, sjr⟩ := sj2
      have hUW' : (U.append W).length = U.length + W.length := List.length_append
      have hUW2 : ((x :: U).append W).length = U.length + W.length + 1 := congrArg (· + 1) hUW'
      rw [hUW'] at hq
      rw [hUW2] at hp
      have e42' : J2 R 4 = nI (U.length + 1 + 1 + W.length) := e42
      have nw' : U.length + W.length + 1 < 6767 := by omega
      have hop : s.1 ≠ 2 ∧ s.1 ≠ 3 ∧ s.1 ≠ 17 ∧ s.1 ≠ 13 ∧ s.1 < 100 := by omega
      have est : stp B C m E mg s (y :: x :: U) = rFin (bin B s.1 x y) s.2.1 U := by
        obtain ⟨s1, s2, s3⟩ := s
        exact stp_bin hop.1 hop.2.1 hop.2.2.1 hop.2.2.2.1
      have cb := cd_bin (B := B) (op := s.1) (x := x) (y := y)
      obtain ⟨sq1, sq2, sq3, sq4⟩ := sh.2.2.2.1 _ _ (show U.length + W.length < 6767 by omega) hq
      obtain ⟨sp1, sp2, sp3, sp4⟩ := sh.2.2.2.1 _ _ nw' hp
      have hpq : p ≠ q := fun e => by
        rw [e] at hp
        have := sq4 _ nw' hp
        omega
      have t0 := hBe.1
      have ehd : U.length + 1 + 1 + W.length - 1 = U.length + W.length + 1 := by omega
      refine sX7_run_71 rfl ?_
      refine nX7_run_73 ?_
      refine nX7_run_74 (by omega) (by decide) (fun _ => ?_) (fun z => absurd z hop.1)
      refine sX7_run_233 rfl ?_
      refine nX7_run_235 ?_
      refine nX7_run_236 (by omega) (by decide) (fun _ => ?_) (fun z => absurd z hop.2.1)
      refine sX7_run_281 rfl ?_
      refine nX7_run_283 ?_
      refine nX7_run_285 (by omega) (by decide) (fun z => absurd z hop.2.2.2.1) (fun _ => ?_)
      refine sX7_run_288 rfl ?_
      refine nX7_run_290 ?_
      refine nX7_run_292 (by omega) (by decide) (fun _ => ?_) (fun z => absurd z hop.2.2.1)
      refine sX7_run_333 rfl ?_
      refine sX7_run_334 rfl ?_
      refine jX7_run_335 (by assumption) ?_
      rw [e42']
      refine nX7_run_338 ?_
      refine nX7_run_339 (by omega) ?_
      rw [ehd]
      refine jX7_run_340 (by assumption) ?_
      obtain ⟨J3, hJ3⟩ : ∃ J3, J3 = xup2 J2 R 4 (nI (U.length + W.length + 1)) := ⟨_, rfl⟩
      rw [← hJ3]
      have e43 : J3 R 4 = nI (U.length + W.length + 1) := by rw [hJ3, xup2_s]
      have r3 : ∀ r, r ≠ R → J3 r = J2 r := fun r hr => by rw [hJ3, xup2_r hr]
      have fu3 : fU w R H J J3 := by rw [hJ3]; exact fU_t fu2 (fU_u hne (by decide))
      have e113 : J3 R 11 = nI s.2.1 := by rw [hJ3, xup2_n (by decide)]; exact e112
      refine sX7_run_343 rfl ?_
      refine sX7_run_344 rfl ?_
      refine jX7_run_345 (by assumption) (by assumption) ?_
      refine sX7_run_348 rfl ?_
      refine sX7_run_350 rfl ?_
      refine sX7_run_352 rfl ?_
      refine sX7_run_353 rfl ?_
      refine jX7_run_354 (by assumption) ?_
      rw [e43]
      refine nX7_run_357 ?_
      refine nX7_run_358 (by omega) ?_
      rw [show U.length + W.length + 1 - 1 = U.length + W.length by omega]
      refine jX7_run_359 (Nat.le_of_ble_eq_true rfl) (by assumption) ?_
      refine c_slotS sh t7 q3 (by omega) hq ?_
      refine sX7_run_362 rfl ?_
      refine sX7_run_363 rfl ?_
      refine jX7_run_364 (by assumption) ?_
      rw [e43]
      refine jX7_run_367 (Nat.le_of_ble_eq_true rfl) (by assumption) ?_
      refine c_slotS sh t7 q3 nw' hp ?_
      show aw g l mX7_run 370 _ (.ref p :: .ref q :: .int s.2.2 :: .int (nI s.1) :: .ref (R + 1213) :: .ref R :: []) (xJ h1 J3) Q
      refine jX7_run_370 (Nat.le_of_ble_eq_true rfl) (by assumption) ?_
      refine c_actBin hBe sq3 sp3 hpq (VJ_c (fun r a1 a2 => r3 r (by omega)) vq) (VJ_c (fun r a1 a2 => r3 r (by omega)) vp) wq wp (by rw [r3 _ (by omega)]; exact dB) hB2 hs1 (fun J4 y4 v4 => ?_)
      have f4 := fU_A (w := w) hwR hRH sq1 y4
      have RJ4 : J4 R = J3 R := y4.1 R (by omega) (by omega)
      refine jX7_run_373 (by assumption) ?_
      generalize hJ5 : xup2 J4 R 10 (nI (bin B s.1 x y).1) = J5
      have r5 : ∀ r, r ≠ R → J5 r = J4 r := fun r hr => by rw [← hJ5, xup2_r hr]
      have fu5 : fU w R H J J5 := by rw [← hJ5]; exact fU_t (fU_t fu3 f4) (fU_u hne (by decide))
      have sj5 : SJ h1 J5 R (U ++ W) := by
        refine SJ_keep (n := U.length + W.length) (q := q) (hX_r R h1) sh sh hq (by omega) (fun r a1 a2 a3 => ?_) (by rw [List.length_append]; omega) sjr
        rw [r5 r (by omega), y4.1 r (by omega) a3, r3 r (by omega)]
      by_cases z0 : (bin B s.1 x y).1 = 0
      · rw [rFin_0 z0] at est
        refine nxt h1 J5 _ _ hx sh fu5 est hdk' ?_ ?_ ⟨⟨q, ?_, VJ_c (fun r a1 a2 => r5 r (by omega)) (v4 z0), vWf_bin hB2 wq wp z0⟩, sj5⟩ (fun z hz => by simp only [List.mem_cons, List.not_mem_nil, or_false] at hz; rcases hz with rfl | rfl | rfl | rfl | rfl <;> exact xlk_mem rfl)
        · rw [← hJ5, xup2_n (by decide), RJ4, e43]; show nI (U.length + W.length + 1) = nI (U.length + 1 + W.length); rw [show U.length + W.length + 1 = U.length + 1 + W.length by omega]
        · rw [← hJ5, xup2_s, z0]
        · show xP h1 (R + 1209) (U.append W).length = some q; rw [hUW']; exact hq
      · rw [rFin_1 z0] at est
        exact err h1 J5 _ _ hx sh fu5 est z0 (by omega) (by rw [← hJ5, xup2_s]) (by rw [← hJ5, xup2_n (by decide), RJ4]; exact e113) (sjW sj5) (fun z hz => by simp only [List.mem_cons, List.not_mem_nil, or_false] at hz; rcases hz with rfl | rfl | rfl | rfl | rfl <;> exact xlk_mem rfl)
end Run2
