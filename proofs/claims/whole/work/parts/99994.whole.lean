/-! THE CLAIM OUT OF ONE WALK OF THE LAW'S BODY. Your part is whole_start (and what it stands on); all else here is the same for every law, but numbers. -/
def R_law : String := "MeasureBookLaw"
def lw_P (b : Addr) (xs : List Int32) (args : Array Value) (s : State) : Prop := args = #[.ref b] ∧ s.IntsAt b xs ∧ xs.length ≤ 3073 ∧ (Jvm.Cond.and given_1 narrow_1).before args s = true
def lw_Q (_ : Array Value) (s : State) (o : Outcome) (t : State) : Prop := o = .returned (some (.int 1)) ∧ Framed s o t [] 600000 7302250
def lw_Z (below : List Frame) (a : Array Value) (s : State) : State → Prop := fun t => ∃ o, t.status = .running ∧ Ended t below o ∧ lw_Q a s o t
/-- the law's own end, with 1 on the stack, nothing written that was there before, its room as the claim has it -/
theorem lw_ret {p : Program} {l : Launch} {e : Env} {s : State} {m : MethodId} {below : List Frame} {meth : Method} {c : Code} {b : Nat} (hx : p.tables.exec = Jvm.exec) (hb : c.code = code) (hr : meth.sig.returnType = ret) (hlocks : meth.locks = false) {pc : Nat} {H : Heap} {ls : Array Slot} (hdg : decode code pc = .ok (.ireturn, 1)) : W p l e room_1 s m #[Value.ref b] below meth c H [] 600000 7302250 (lw_Z below #[Value.ref b] s) (F0 m pc ls [.int 1]) := by
  intro T hT X
  obtain ⟨fs, hret, hrun, hended, hW, hframe⟩ := X.leave (v := some (.int 1)) (hlocks := hlocks) (fun h => by rw [hr] at h; cases h)
  have hmeth' : T.vm.method? m = some meth := X.method'
  refine ⟨T.setFrames fs, ?_, .returned (some (.int 1)), hrun, hended, rfl, ⟨_, rfl⟩, hW, hframe⟩
  jvm_step X.here [X.here.top, hx, hb, hdg, hmeth', hr, ret, narrow_b1]
  (try refine ⟨rfl, ?_⟩); (try refine ⟨rfl, ?_⟩)
  first | (intro acts; rw [hret _ acts rfl rfl rfl]) | rw [hret _ _ rfl rfl rfl]
  exact Steps.refl _
/-- what holds at the law's entry: the machine, the code, the tables' words (any of lw_tbl by 'hts w (by decide +kernel)'), the script of L ints xs at the cell b, what the Statement gives of the start (any of its parts by flat_of_before) -/
def lw_At (p : Program) (s : State) (m : MethodId) (meth : Method) (c : Code) (b L : Nat) (xs : Nat → Int32) : Prop :=
  p.tables.exec = Jvm.exec ∧ c.code = code ∧ meth.sig.returnType = ret ∧ c.maxLocals = 4 ∧ s.vm.findClass R_law = some m.cls ∧ (∀ w ∈ lw_tbl, w.before #[Value.ref b] s = true) ∧ va_X b L xs s s.heap ∧ b < s.heap.size ∧ meth.locks = false ∧ (Jvm.Cond.and given_1 narrow_1).before #[Value.ref b] s = true ∧ meth.name = x.name
-- ===== my part =====
theorem t_elem {args : Array Value} {s : State} {t : Term} {a : Addr} {cell : Cell} {j v : Int32} (h : (Term.elem t (.int j)).eval args s none [] s = some (.int v)) (ht : t.eval args s none [] s = some (.ref a)) (hc : s.arrayAt? a = some cell) : cell.slots[j.toNatClampNeg]? = some (.int v) := by
  simp only [Term.eval, ht, hc, Option.bind_eq_bind, Option.bind_some] at h
  by_cases z : j < 0
  · rw [if_pos z] at h; cases h
  · rw [if_neg z] at h; exact h
theorem arr_of {U : State} {cA : ClassId} {ty : FieldType} {k : Class} {comp : ClassId} (h1 : U.vm.classes[cA]? = some k) (h2 : k.kind = .array comp ty) : ArrOfT U cA ty := fun n z => ⟨fun j e => (by cases e), k, h1, comp, h2⟩
theorem w_in {w : Cond} (h : w ∈ xW) : w ∈ lw_tbl := (List.mem_filter.mp h).1
theorem w_inst : ∀ ci, ci < 12 → Cond.instantiable (xNm ci) (xN ci) ∈ lw_tbl := fun ci h => by
  match ci, h with
  | 0, _ => exact w_in kw339
  | 1, _ => exact w_in kw88
  | 2, _ => exact w_in kw94
  | 3, _ => exact w_in kw232
  | 4, _ => exact w_in kw314
  | 5, _ => exact w_in kw238
  | 6, _ => exact w_in kw177
  | 7, _ => exact w_in kw308
  | 8, _ => exact w_in kw183
  | 9, _ => exact w_in kw273
  | 10, _ => exact w_in kw80
  | 11, _ => exact w_in kw940
set_option maxRecDepth 100000 in
theorem w_nest : ∀ w ∈ xNest, w ∈ lw_tbl ∧ w.onTables = true := by decide +kernel
set_option maxRecDepth 100000 in
theorem w_over : Cond.arrayOver (.object RX9) ∈ lw_tbl := by decide +kernel
set_option maxRecDepth 100000 in
theorem w_tens : Cond.laysStatic "MeasureBook" "TENS" "[I" ∈ lw_tbl := by decide +kernel
abbrev tTens : Term := .static "MeasureBook" "TENS" "[I"
/-- what the Statement gives of TENS -/
theorem tens_of {b : Nat} {s : State} (hgv : (Jvm.Cond.and given_1 narrow_1).before #[Value.ref b] s = true) : ∃ (tn : Nat) (tc : Cell), tTens.eval #[Value.ref b] s none [] s = some (.ref tn) ∧ s.heap[tn]? = some tc ∧ s.isArrayOf tc .int ∧ tc.vm ≠ .unknown ∧ tc.slots.size = 10 ∧ (∀ i, i < 10 → tc.slots[i]? = some (.int (nI (10 ^ i)))) ∧ b ≠ tn := by
  have hs := flat_of_before _ hgv
  have hlen : (Term.length tTens).eval #[Value.ref b] s none [] s = some (.int 10) := Cond.eq_int (hs (Cond.eq (.length tTens) (.int 10)) (by decide +kernel)) rfl
  obtain ⟨tn, tc, t1, t2, t3⟩ := Term.length_spec hlen
  obtain ⟨hcell, hkn, -, -⟩ := State.arrayAt?_spec t2
  have hof := (Cond.arrayOf_spec (hs (Cond.arrayOf tTens .int) (by decide +kernel)) t1 hcell).1
  have hsz : tc.slots.size < 2 ^ 31 := by
    have hl := hlen
    simp only [Term.eval, Option.bind_eq_bind] at hl
    by_cases hlt : tc.slots.size < 2147483648
    · exact hlt
    · simp only [tTens] at t1
      simp [Term.eval, t2, hlt] at hlen
      simp [Term.eval] at t1
      simp_all
  have hn : tc.slots.size = 10 := by
    have e : Int32.ofNat 10 = Int32.ofNat tc.slots.size := by
      have := Value.int.inj t3
      exact this
    exact ((nI_eq (by decide) hsz).mp e).symm
  refine ⟨tn, tc, t1, hcell, hof, hkn, hn, fun i hi => ?_, fun e => ?_⟩
  · have hi' : i = 0 ∨ i = 1 ∨ i = 2 ∨ i = 3 ∨ i = 4 ∨ i = 5 ∨ i = 6 ∨ i = 7 ∨ i = 8 ∨ i = 9 := by omega
    rcases hi' with rfl | rfl | rfl | rfl | rfl | rfl | rfl | rfl | rfl | rfl
    · exact t_elem (j := 0) (Cond.eq_int (hs (Cond.eq (.elem tTens (.int 0)) (.int 1)) (by decide +kernel)) rfl) t1 t2
    · exact t_elem (j := 1) (Cond.eq_int (hs (Cond.eq (.elem tTens (.int 1)) (.int 10)) (by decide +kernel)) rfl) t1 t2
    · exact t_elem (j := 2) (Cond.eq_int (hs (Cond.eq (.elem tTens (.int 2)) (.int 100)) (by decide +kernel)) rfl) t1 t2
    · exact t_elem (j := 3) (Cond.eq_int (hs (Cond.eq (.elem tTens (.int 3)) (.int 1000)) (by decide +kernel)) rfl) t1 t2
    · exact t_elem (j := 4) (Cond.eq_int (hs (Cond.eq (.elem tTens (.int 4)) (.int 10000)) (by decide +kernel)) rfl) t1 t2
    · exact t_elem (j := 5) (Cond.eq_int (hs (Cond.eq (.elem tTens (.int 5)) (.int 100000)) (by decide +kernel)) rfl) t1 t2
    · exact t_elem (j := 6) (Cond.eq_int (hs (Cond.eq (.elem tTens (.int 6)) (.int 1000000)) (by decide +kernel)) rfl) t1 t2
    · exact t_elem (j := 7) (Cond.eq_int (hs (Cond.eq (.elem tTens (.int 7)) (.int 10000000)) (by decide +kernel)) rfl) t1 t2
    · exact t_elem (j := 8) (Cond.eq_int (hs (Cond.eq (.elem tTens (.int 8)) (.int 100000000)) (by decide +kernel)) rfl) t1 t2
    · exact t_elem (j := 9) (Cond.eq_int (hs (Cond.eq (.elem tTens (.int 9)) (.int 1000000000)) (by decide +kernel)) rfl) t1 t2
  · have hne := hs (Cond.not (Cond.eq (.arg 0) tTens)) (by decide +kernel)
    have he : (Cond.eq (.arg 0) tTens).holds #[Value.ref b] s none s [] = true := Cond.eq_same (y := .ref tn) (by rw [← e]; rfl) t1 (Or.inr (Or.inr rfl))
    have ev : (Cond.eq (.arg 0) tTens).value #[Value.ref b] s none s [] = some true := by
      simp only [Cond.holds] at he
      exact of_decide_eq_true (by simpa using he)
    simp [Cond.before, Cond.holds, Cond.value] at hne
    simp [Cond.value] at ev
    simp_all
/-- from the entry, for every script of at most 3073 ints, the law comes to its end with true -/
theorem whole_start {p : Program} {e : Env} {s : State} {m : MethodId} {below : List Frame} {meth : Method} {c : Code} (l : Launch) {b L : Nat} {xs : Nat → Int32} (hL : L ≤ 3073) (C0 : lw_At p s m meth c b L xs) : W p l e room_1 s m #[Value.ref b] below meth c s.heap [] 0 0 (lw_Z below #[Value.ref b] s) (entryFrame m ([Value.ref b] : List Value).toArray 4) := by
  obtain ⟨hx, hb, hr, hml, hown, hts, hX, hbl, hlocks, hgv, hnm⟩ := id C0
  obtain ⟨tn, tc, t1, t2, t3, t4, t5, t6, hbt⟩ := tens_of hgv
  obtain ⟨scr, x1, x2, x3, x4, x5⟩ := hX
  have htn : tn < s.heap.size := (Array.getElem?_eq_some_iff.mp t2).1
  have hc0 : ∀ ci, ∃ (cC : ClassId) (iS : Nat → Nat), ci < 12 → u_Kn s (xNm ci) (xTT ci) (xN ci) cC iS := by
    intro ci
    by_cases h : ci < 12
    · obtain ⟨cC, iS, hk⟩ := u_known (ws := lw_tbl) (C := xNm ci) (T := xTT ci) (N := xN ci) (n := xN ci) hts (fun w hw => (xin0 ci h w hw).1) (hts _ (w_inst ci h))
      exact ⟨cC, iS, fun _ => hk⟩
    · exact ⟨m.cls, fun _ => 0, fun z => absurd z h⟩
  obtain ⟨dC, dI, hKc⟩ : ∃ (dC : Nat → ClassId) (dI : Nat → Nat → Nat), ∀ ci, ci < 12 → u_Kn s (xNm ci) (xTT ci) (xN ci) (dC ci) (dI ci) := ⟨fun ci => Classical.choose (hc0 ci), fun ci => Classical.choose (Classical.choose_spec (hc0 ci)), fun ci => Classical.choose_spec (Classical.choose_spec (hc0 ci))⟩
  obtain ⟨aI, kI, cI, fI, gI, eI⟩ := Cond.arrayClass_spec (hts _ (w_in kw118))
  obtain ⟨aB, kB, cB, fB, gB, eB⟩ := Cond.arrayClass_spec (hts _ (w_in kw117))
  obtain ⟨aZ, kZ, cZ, fZ, gZ, eZ⟩ := Cond.arrayClass_spec (hts _ (w_in kw1103))
  obtain ⟨cV, aV, kV, fV, -, gV, eV, nV⟩ := Cond.arrayOver_spec (hts _ w_over)
  obtain ⟨kS, gS, cS, eS⟩ := x2.2
  obtain ⟨kT, gT, cT', eT⟩ := t3.2
  obtain ⟨G, hG⟩ : ∃ G : xG, G = ((dC, dI), (fun j => if j = 0 then aI else if j = 1 then aB else if j = 2 then aZ else if j = 3 then aV else if j = 4 then scr.cls else tc.cls), s.heap.size, tn) := ⟨_, rfl⟩
  have G0 : G.1 = (dC, dI) := by rw [hG]
  have Ga : G.2.1 0 = aI ∧ G.2.1 1 = aB ∧ G.2.1 2 = aZ ∧ G.2.1 3 = aV ∧ G.2.1 4 = scr.cls ∧ ∀ j, 5 ≤ j → G.2.1 j = tc.cls := by
    rw [hG]
    refine ⟨rfl, rfl, rfl, rfl, rfl, fun j hj => ?_⟩
    show (if j = 0 then aI else if j = 1 then aB else if j = 2 then aZ else if j = 3 then aV else if j = 4 then scr.cls else tc.cls) = tc.cls
    rw [if_neg (by omega), if_neg (by omega), if_neg (by omega), if_neg (by omega), if_neg (by omega)]
  have Gl : G.2.2.1 = s.heap.size := by rw [hG]
  have Gt : G.2.2.2 = tn := by rw [hG]
  have hK : xK G s := by
    refine ⟨⟨fun k q hq => ?_, fun k q hq => ?_⟩, ⟨va_AO.of (hts _ w_over), fun j => ?_⟩, fun w hw => va_Nw.of (w_nest w hw).2 (hts w (w_nest w hw).1), ?_⟩
    · rw [G0]
      rcases Nat.lt_or_ge k 12 with h | h
      · rw [xcl_of h] at hq
        have hq' := Option.some.inj hq
        rw [← hq']
        exact hKc k h
      · rw [List.getElem?_eq_none (show vwCl.length ≤ k from h)] at hq
        cases hq
    · match k, hq with
      | 0, hq => cases hq; rw [Ga.1]; exact ⟨arr_of gI eI, fI⟩
      | 1, hq => cases hq; rw [Ga.2.1]; exact ⟨arr_of gB eB, fB⟩
      | 2, hq => cases hq; rw [Ga.2.2.1]; exact ⟨arr_of gZ eZ, fZ⟩
      | 3, hq => cases hq; rw [Ga.2.2.2.1]; exact ⟨arr_of gV eV, kV, cV, gV, eV, fV, nV⟩
      | k + 4, hq => rw [List.getElem?_eq_none (show (xtys G).length ≤ k + 4 from Nat.le_add_left 4 k)] at hq; cases hq
    · cases j with
      | zero => rw [show 4 + 0 = 4 from rfl, Ga.2.2.2.2.1]; exact arr_of gS eS
      | succ j => rw [Ga.2.2.2.2.2 (4 + (j + 1)) (by omega)]; exact arr_of gT eT
    · rw [Gt]
      exact va_Zref (hts _ w_tens) (hts _ (w_in kw63)) t1 (fun a ha hA => by
        have hA' : G.2.2.1 ≤ a := hA
        omega)
  obtain ⟨h0, hh0⟩ : ∃ h0 : xH, h0 = (s.heap.size, 0, (fun q => if q = b then (104, L) else if q = tn then (104, 10) else (200, 0)), (fun q i => if q = b then xs i else nI (10 ^ i)), fun _ _ => none) := ⟨_, rfl⟩
  have hT0 : ∀ q, xT h0 q = if q = b then (104, L) else if q = tn then (104, 10) else (200, 0) := fun q => by rw [hh0]; rfl
  have hI0 : ∀ q, xI h0 q = fun i => if q = b then xs i else nI (10 ^ i) := fun q => by rw [hh0]; rfl
  have h01 : h0.1 = s.heap.size := by rw [hh0]
  have h02 : h0.2.1 = 0 := by rw [hh0]
  have Tb : xT h0 b = (104, L) := by rw [hT0, if_pos rfl]
  have Tt : xT h0 tn = (104, 10) := by rw [hT0, if_neg (Ne.symm hbt), if_pos rfl]
  have Ib : xI h0 b = xs := by rw [hI0]; funext i; rw [if_pos rfl]
  have It : xI h0 tn = fun i => nI (10 ^ i) := by rw [hI0]; funext i; rw [if_neg (Ne.symm hbt)]
  have hR : xR G h0 s.heap := by
    refine ⟨h01.symm, fun q hq => ?_, fun q hq => ?_, fun q hq => ?_⟩
    · by_cases e1 : q = b
      · subst e1
        unfold xat xrow
        rw [Tb, Ib, if_neg (show ¬ 104 < 12 by decide), if_neg (show ¬ 104 = 103 by decide), if_pos rfl]
        exact ⟨scr, 0, x1, Ga.2.2.2.2.1.symm, x2.1, x3, x4, x5⟩
      · by_cases e2 : q = tn
        · subst e2
          unfold xat xrow
          rw [Tt, It, if_neg (by decide), if_neg (by decide), if_pos rfl]
          exact ⟨tc, 1, t2, (Ga.2.2.2.2.2 5 (Nat.le_refl _)).symm, t3.1, t4, t5, t6⟩
        · rw [hT0, if_neg e1, if_neg e2] at hq
          exact absurd hq (by decide)
    · rw [hT0, if_neg (by omega), if_neg (by omega)]
      decide
    · rw [hT0] at hq
      by_cases e1 : q = b
      · rw [if_pos e1] at hq; exact absurd hq (show ¬ 104 < 104 by decide)
      · rw [if_neg e1] at hq
        by_cases e2 : q = tn
        · rw [if_pos e2] at hq; exact absurd hq (by decide)
        · rw [if_neg e2] at hq; exact absurd hq (by decide)
  obtain ⟨r, h', ⟨hm, kb⟩, q1, q2, q3⟩ := law_start (g := G) (l := l) (h := h0) (s0 := b) (len := L) (xs := xs) (Q := fun r H' => r = some (.int 1) ∧ H'.1 ≤ s.heap.size + 41884 ∧ H'.2.1 ≤ 7302250) (by omega) (by omega) Tb Ib (by omega) (by rw [Gt]; exact Tt) (fun i hi => by rw [Gt, It]) h02 hL (fun H' a1 a2 => ⟨rfl, by omega, a2⟩)
  subst q1
  rw [lg_entry_eq]
  refine kb p e room_1 s m #[Value.ref b] below meth c (lw_Z below #[Value.ref b] s) s.heap [] 0 0 _ ⟨hx, hb, hml, hown, fun w hw => hts w (w_in hw), hr, hlocks, hnm, hK, by decide, by decide⟩ hR va_S.rf (lv_entry [.ref b] (Nat.le_of_ble_eq_true rfl)) (by show 0 + (h'.1 - h0.1) ≤ 600000; omega) (by show 0 + (h'.2.1 - h0.2.1) ≤ 7302250; omega) ?_
  intro H' locs' pc' ls' hR' hS' hret
  refine va_forget (fun q hq => by have h9 : G.2.2.1 ≤ q.base := hS'.2.2 q hq; omega) ?_
  refine W.widen (k := 600000) (n := 7302250) (by omega) (by omega) ?_
  exact lw_ret hx hb hr hlocks hret.1
-- ===== YOUR PART ENDS =====
set_option maxHeartbeats 4000000 in
theorem lw_walk (l : Launch) (b : Addr) (xs : List Int32) : MetFree l x (headSpec (Jvm.Cond.code x code maxLocals ret :: tables_1) room_1) (lw_P b xs) (fun _ _ _ _ _ => True) lw_Q := by
  refine MetFree.of_bodyS (code := code) (maxLocals := maxLocals) (ret := ret) (by decide) ?_ ?_
  · intro args s m h hn
    obtain ⟨meth, c, h1, h2, h3, h4, h5, h6, -, -⟩ := Cond.code_spec hn (atoms_spec (ws := Jvm.Cond.code x code maxLocals ret :: tables_1) h _ List.mem_cons_self)
    exact ⟨meth, c, h1, h2, h3, h4, h5, h6⟩
  · intro p e s m args below meth c s₁ B hml0 hP _
    obtain ⟨rfl, hx, hbd, hgv⟩ := hP
    obtain ⟨scr, harrAt, hlist, hof, hsmall⟩ := hx
    obtain ⟨hcb, hkn, -, -⟩ := State.arrayAt?_spec harrAt
    have hown : s.vm.findClass R_law = some m.cls := findClass_of_methodNamed B.named
    have hts0 : ∀ c ∈ (Jvm.Cond.code x code maxLocals ret :: tables_1), c.before #[Value.ref b] s = true := atoms_spec (ws := Jvm.Cond.code x code maxLocals ret :: tables_1) B.pre
    have hts : ∀ w ∈ lw_tbl, w.before #[Value.ref b] s = true := k2_hts_sels lw_privs (fun w hw => hts0 w (List.mem_cons_of_mem _ hw)) lw_privs_ok
    have hml : c.maxLocals = 4 := B.maxLocals_eq (hts0 _ List.mem_cons_self)
    have X₀ : Stand p l e room_1 s m #[Value.ref b] below meth c s₁ [] 0 0 := Stand.of_body B
    have hh0 : s₁.heap = s.heap := by rw [B.state]; rfl
    have hsz : scr.slots.size = xs.length := by rw [← Array.length_toList, hlist, List.length_map]
    have hval : ∀ j : Nat, j < xs.length → scr.slots[j]? = some (.int (xs.getD j 0)) := fun j hj => by
      rw [← Array.getElem?_toList, hlist]
      simp [hj]
    have hbl : b < s.heap.size := (Array.getElem?_eq_some_iff.mp hcb).1
    have hX : va_X b xs.length (fun j => xs.getD j 0) s s.heap := ⟨scr, hcb, hof, hkn, hsz, hval⟩
    have K : W p l e room_1 s m #[Value.ref b] below meth c s₁.heap [] 0 0 (lw_Z below #[Value.ref b] s) (entryFrame m ([Value.ref b] : List Value).toArray 4) := by
      rw [hh0]
      exact whole_start l hbd ⟨B.exec, B.bytes, B.returns, hml, hown, hts, hX, hbl, B.notSynchronized, hgv, (name_of_methodNamed B.named B.method).1⟩
    obtain ⟨t, a1, o, b1, b2, b3⟩ := K s₁ rfl X₀
    exact ⟨t, o, a1, b1, b2, b3⟩
theorem lw_pre_spec {args : Array Value} {s : State} (h : (Jvm.Cond.and given_1 narrow_1).before args s = true) (hr : rest_1_c.before args s = true) : ∃ (b : Addr) (xs : List Int32), lw_P b xs args s := by
  have hs := flat_of_before _ h
  have hq := flat_of_before _ hr
  have hc : (Cond.count 1).before args s = true := hs _ (by decide +kernel)
  have harr : (Cond.arrayOf (.arg 0) .int).before args s = true := hs _ (by decide +kernel)
  have hle : (Cond.le (.length (.arg 0)) (.int 3073)).before args s = true := hs _ (by decide +kernel)
  have hlen : (Cond.isInt (.length (.arg 0))).before args s = true := hq _ (by decide +kernel)
  have hall : (Cond.all (.arg 0) (.isInt (.elem (.arg 0) (.index 0)))).before args s = true := hq _ (by decide +kernel)
  obtain ⟨b, xs, hb, hx⟩ := State.ints_of_pre rfl harr hlen hall
  have hsm : xs.length < 2 ^ 31 := hx.choose_spec.2.2.2
  have hev : (Term.length (.arg 0)).eval args s none [] s = some (.int xs.length.toInt32) := hx.length_eval hb
  have hv := Cond.le_ints hev (show (Term.int 3073).eval args s none [] s = some (.int 3073) from rfl)
  have hd : xs.length.toInt32 ≤ 3073 := by
    simpa [Cond.before, Cond.holds, hv] using hle
  have hN : xs.length ≤ 3073 := (Int32.ofNat_le_ofNat hsm (by decide)).mp (show Int32.ofNat xs.length ≤ Int32.ofNat 3073 from hd)
  exact ⟨b, xs, Cond.one_arg hc (show args[0]? = some (.ref b) from hb), hx, hN, h⟩
theorem lw_comes (l : Launch) : Comes l x (Jvm.Cond.code x code maxLocals ret :: tables_1) room_1 (fun tb e args s => Calls_1 tb e args s ∧ rest_1 tb e args s ∧ Pre_1 tb e args s)
    (fun _ _ args s o t => lw_Q args s o t) := by
  intro p e ha hc hk s m args below hf hfit hheap happ hpre
  obtain ⟨b, xs, hP⟩ := lw_pre_spec hpre.2.2 hpre.2.1
  obtain ⟨k, o, h1, h2, h3, hQ⟩ := lw_walk l b xs p e ha hc hk s m args below hf ((Spec.applies_iff_loose hf).mp happ).1 hP trivial
  exact ⟨k, o, h1, h2, h3, hQ⟩
theorem lw_frame {s t : State} {o : Outcome} {args : Array Value} (h : Framed s o t [] 600000 7302250) :
    Framed s o t (fieldLocs frame_1_writes args s ++ arrayLocs frame_1_arrays args s ++ staticLocs frame_1_statics s) 600000 7302250 := h
theorem lw_limb (L : Cond) (hL : ∀ (args : Array Value) (s t : State), L.after args s (.returned (some (.int 1))) t = true) :
    ArmFor flags0 classFile x code maxLocals ret World_1 tables_1 room_1 Calls_1 rest_1 Pre_1
      (fun tb e a s o t => postC L tb e a s o t ∧ Framed s o t (fieldLocs frame_1_writes a s ++ arrayLocs frame_1_arrays a s ++ staticLocs frame_1_statics s) 600000 7302250) := by
  intro l _ _ _ p e ha hc hk s m args below hf hfit hheap happ hpre
  obtain ⟨k, o, h1, h2, h3, rfl, hF⟩ := lw_comes l p e ha hc hk s m args below hf hfit hheap happ hpre
  exact ⟨k, _, h1, h2, h3, hL args s _, lw_frame hF⟩
theorem i_vc : Claimed_1_1 ∧ Claimed_1_2 := ⟨lw_limb limb_1_1 (fun args s t => by simp [limb_1_1, Cond.after, Cond.holds, Cond.value]), lw_limb limb_1_2 (fun args s t => Cond.after_iff.mpr (by
  first | (rw [show limb_1_2 = Cond.eq .result (.int 1) from rfl, Cond.eq_ints (x := 1) (y := 1) rfl rfl]; simp; done) | (simp [limb_1_2, Cond.value, Term.eval]; done)))⟩
