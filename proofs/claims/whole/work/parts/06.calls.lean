theorem xnew_T {h : xH} {kd len : Nat} (a : Nat) : xT (xnew h kd len) a = if a = h.1 then (kd, len) else xT h a := rfl
theorem xnew_o {h : xH} {kd len a : Nat} (ha : a ≠ h.1) : xT (xnew h kd len) a = xT h a ∧ xI (xnew h kd len) a = xI h a ∧ xP (xnew h kd len) a = xP h a := by
  refine ⟨if_neg ha, ?_, ?_⟩
  · show va_up h.2.2.2.1 h.1 _ a = _
    unfold va_up
    rw [if_neg ha]; rfl
  · show va_up h.2.2.2.2 h.1 _ a = _
    unfold va_up
    rw [if_neg ha]; rfl
theorem xnew_q {h : xH} {kd len : Nat} : xT (xnew h kd len) h.1 = (kd, len) ∧ xI (xnew h kd len) h.1 = (fun _ => 0) ∧ xP (xnew h kd len) h.1 = (fun _ => none) := by
  refine ⟨if_pos rfl, ?_, ?_⟩
  · show va_up h.2.2.2.1 h.1 _ h.1 = _
    simp [va_up]
  · show va_up h.2.2.2.2 h.1 _ h.1 = _
    simp [va_up]
theorem xR.mk {g : xG} {h : xH} {H H1 : Heap} {kd len : Nat} (hR : xR g h H) (hlo : g.2.2.1 ≤ h.1) (z : H1.size = h.1 + 1) (oq : ∀ a : Nat, a < h.1 → H1[a]? = H[a]?) (hq : xat g (xnew h kd len) H1 h.1) : xR g (xnew h kd len) H1 := by
  obtain ⟨r1, r2, r3, r4⟩ := hR
  refine ⟨z, fun a ha => ?_, fun a ha => ?_, fun a ha => ?_⟩
  · by_cases hE : a = h.1
    · rw [hE]; exact hq
    · obtain ⟨o1, o2, o3⟩ := xnew_o (kd := kd) (len := len) hE
      rw [o1] at ha
      have hlt : a < h.1 := by
        rcases Nat.lt_or_ge a h.1 with q | q
        · exact q
        · exact absurd ha (Nat.not_le.mpr (r3 a q))
      exact xat_kept (r2 a ha) o1 o2 o3 (oq a hlt)
  · have ha' : h.1 + 1 ≤ a := ha
    have hE : a ≠ h.1 := by omega
    rw [(xnew_o hE).1]
    exact r3 a (by omega)
  · by_cases hE : a = h.1
    · rw [hE]; exact hlo
    · rw [(xnew_o hE).1] at ha
      exact r4 a ha
theorem xdef (ci k : Nat) (hk : ci < 12) (hkn : k < xN ci) : defaultValue (xty ci k) = xval ci k 0 none := by
  have : ∀ ci, ci < 12 → ∀ k, k < xN ci → defaultValue (xty ci k) = xval ci k 0 none := by decide +kernel
  exact this ci hk k hkn
section Make
variable {g : xG} {l : Launch} {M : xM} {pc : Nat} {lv : List (Nat × Value)} {st : List Value} {h : xH} {Q : Option Value → xH → Prop}
theorem va_S.mk {A : Nat → Prop} {H0 H H1 : Heap} {locs : List Loc} (hS : va_S A H0 H locs) (z : H1.size = H.size + 1) (o : ∀ q : Nat, q < H.size → H1[q]? = H[q]?) : va_S A H0 H1 locs :=
  ⟨Nat.le_trans hS.1 (by omega), fun x h1 h2 => (o x (Nat.lt_of_lt_of_le h1 hS.1)).trans (hS.2.1 x h1 h2), hS.2.2⟩
theorem x_new {ci idx : Nat} (hd : decode M.2.1 pc = .ok (.new idx, 3)) (hc : ci < 12) (hw : Cond.classLink M.1.cls idx (xNm ci) ∈ xW) (hw2 : Cond.instantiable (xNm ci) (xN ci) ∈ xW) (hw3 : Cond.initialized (xNm ci) ∈ xW) (hlo : g.2.2.1 ≤ h.1) (kk : aw g l M (pc + 3) lv (.ref h.1 :: st) (xnew h ci (xN ci)) Q) : aw g l M pc lv st h Q := by
  refine aw_mk (h2 := xnew h ci (xN ci)) (Nat.le_succ _) (Nat.le_add_right _ _) (fun p e R s m args below meth c QQ H locs cells slots ls C hR hS hl h1 h2 kk => ?_) kk
  obtain ⟨hx, hb, hml, hown, hts, -, -, -, hK, -⟩ := C
  have hKn := hK.1.1 ci _ (xcl_of hc)
  have q1 : (xnew h ci (xN ci)).1 - h.1 = 1 := by show h.1 + 1 - h.1 = 1; omega
  have q2 : (xnew h ci (xN ci)).2.1 - h.2.1 = xN ci := by show h.2.1 + xN ci - h.2.1 = xN ci; omega
  rw [q1] at h1 kk
  rw [q2] at h2 kk
  refine W.newcK hx hb hown (hts _ hw) (hts _ hw2) (hts _ hw3) rfl hd h1 h2 hKn.2.1 hR.1 fun H1 kC hkC e1 z1 o1 => ?_
  refine kk H1 locs (hR.mk hlo z1 o1 ?_) (hS.mk (by rw [hR.1]; exact z1) (by rw [hR.1]; exact o1))
  unfold xat
  rw [xnew_q.1, xnew_q.2.1, xnew_q.2.2]
  rw [if_pos hc]
  exact (u_born (xty ci) hts (xin hc) hKn hkC e1 (xty_ok hc)).to (fun k hk => xdef ci k hc hk)
theorem x_newa {at_ : ArrayType} {kd : Nat} {n : Int32} (hd : decode M.2.1 pc = .ok (.newarray at_, 2)) (hk : (at_ = .int ∧ kd = 100) ∨ (at_ = .byte ∧ kd = 101) ∨ (at_ = .boolean ∧ kd = 102)) (hw : Cond.arrayClass (newarray.typeOf at_) ∈ xW) (hn : ¬ n < 0) (hb4 : n.toNatClampNeg * 4 ≤ 536870912) (hlo : g.2.2.1 ≤ h.1) (kk : aw g l M (pc + 2) lv (.ref h.1 :: st) (xnew h kd n.toNatClampNeg) Q) : aw g l M pc lv (.int n :: st) h Q := by
  refine aw_mk (h2 := xnew h kd n.toNatClampNeg) (Nat.le_succ _) (Nat.le_add_right _ _) (fun p e R s m args below meth c QQ H locs cells slots ls C hR hS hl h1 h2 kk => ?_) kk
  obtain ⟨hx, hb, hml, hown, hts, -, -, -, hK, -⟩ := C
  have q1 : (xnew h kd n.toNatClampNeg).1 - h.1 = 1 := by show h.1 + 1 - h.1 = 1; omega
  have q2 : (xnew h kd n.toNatClampNeg).2.1 - h.2.1 = n.toNatClampNeg := by show h.2.1 + n.toNatClampNeg - h.2.1 = _; omega
  rw [q1] at h1 kk
  rw [q2] at h2 kk
  have hby : n.toNatClampNeg * componentBytes (newarray.typeOf at_) ≤ 536870912 := by
    rcases hk with ⟨rfl, -⟩ | ⟨rfl, -⟩ | ⟨rfl, -⟩
    · exact hb4
    · show n.toNatClampNeg * 1 ≤ _; omega
    · show n.toNatClampNeg * 1 ≤ _; omega
  refine va_newaK hx hb (hts _ hw) rfl hd rfl hn rfl hby h1 h2 hR.1 fun H1 cA e1 z1 o1 hAr hNm => ?_
  refine kk H1 locs (hR.mk hlo z1 o1 ?_) (hS.mk (by rw [hR.1]; exact z1) (by rw [hR.1]; exact o1))
  unfold xat
  rw [xnew_q.1, xnew_q.2.1]
  rcases hk with ⟨rfl, rfl⟩ | ⟨rfl, rfl⟩ | ⟨rfl, rfl⟩
  · rw [if_neg (by show ¬ 100 < 12; omega), if_neg (by show ¬ 100 = 103; omega), xrow_n (by show 100 ≠ 104; omega), e1]
    cases hNm.symm.trans (hK.1.2 0 _ rfl).2
    rfl
  · rw [if_neg (by show ¬ 101 < 12; omega), if_neg (by show ¬ 101 = 103; omega), xrow_n (by show 101 ≠ 104; omega), e1]
    cases hNm.symm.trans (hK.1.2 1 _ rfl).2
    rfl
  · rw [if_neg (by show ¬ 102 < 12; omega), if_neg (by show ¬ 102 = 103; omega), xrow_n (by show 102 ≠ 104; omega), e1]
    cases hNm.symm.trans (hK.1.2 2 _ rfl).2
    rfl
theorem x_newv {idx : Nat} {n : Int32} (hd : decode M.2.1 pc = .ok (.anewarray idx, 3)) (hw : Cond.classLink M.1.cls idx RX9 ∈ xW) (hn : ¬ n < 0) (hb4 : n.toNatClampNeg * 4 ≤ 536870912) (hlo : g.2.2.1 ≤ h.1) (kk : aw g l M (pc + 3) lv (.ref h.1 :: st) (xnew h 103 n.toNatClampNeg) Q) : aw g l M pc lv (.int n :: st) h Q := by
  refine aw_mk (h2 := xnew h 103 n.toNatClampNeg) (Nat.le_succ _) (Nat.le_add_right _ _) (fun p e R s m args below meth c QQ H locs cells slots ls C hR hS hl h1 h2 kk => ?_) kk
  obtain ⟨hx, hb, hml, hown, hts, -, -, -, hK, -⟩ := C
  have q1 : (xnew h 103 n.toNatClampNeg).1 - h.1 = 1 := by show h.1 + 1 - h.1 = 1; omega
  have q2 : (xnew h 103 n.toNatClampNeg).2.1 - h.2.1 = n.toNatClampNeg := by show h.2.1 + n.toNatClampNeg - h.2.1 = _; omega
  rw [q1] at h1 kk
  rw [q2] at h2 kk
  refine W.anew hx hb hown (hts _ hw) (va_AO.use hK.2.1.1) rfl hd rfl hn hb4 h1 h2 fun cA kA comp f1 f2 f3 f4 => ?_
  generalize hH1 : H.push ({ cls := cA, slots := Array.replicate n.toNatClampNeg .null, vm := .none } : Cell) = H1
  have z1 : H1.size = H.size + 1 := by rw [← hH1, Array.size_push]
  have e1 : H1[H.size]? = some (arrV cA n.toNatClampNeg (fun _ => .null)) := by rw [← hH1, Array.getElem?_push_size, ← arrV_new]
  have o1 : ∀ q : Nat, q < H.size → H1[q]? = H[q]? := fun q hq => by rw [← hH1, Array.getElem?_push, if_neg (Nat.ne_of_lt hq)]
  have hs : H.size = h.1 := hR.1
  have k2 := kk H1 locs (hR.mk hlo (by rw [z1, hs]) (by rw [← hs]; exact o1) ?_) (hS.mk z1 o1)
  · rw [← hs] at k2
    exact k2
  · unfold xat
    rw [xnew_q.1, xnew_q.2.2]
    rw [if_neg (by show ¬ 103 < 12; omega), if_pos (show (103, n.toNatClampNeg).1 = 103 from rfl), ← hs, e1]
    obtain ⟨kA2, comp2, k1, k2, k3, k4⟩ := (hK.1.2 3 _ rfl).2
    cases f1.symm.trans k4
    rfl
theorem x_getst {idx : Nat} (hd : decode M.2.1 pc = .ok (.getstatic idx, 3)) (hw : Cond.fieldLinkNest M.1.cls idx "MeasureBook" "TENS" "[I" "MeasureBook" ∈ xNest) (kk : aw g l M (pc + 3) lv (.ref g.2.2.2 :: st) h Q) : aw g l M pc lv st h Q := by
  refine aw_go (fun p e R s m args below meth c QQ H locs cells slots ls C hR hS hl kk => ?_) kk
  obtain ⟨hx, hb, hml, hown, hts, -, -, -, hK, -⟩ := C
  exact va_getsN hx hb hK.2.2.2 hS hown (va_Nw.use rfl (hK.2.2.1 _ hw)) (fun _ h9 => h9) hd (kk ls hl)
theorem x_oinit {idx q : Nat} (hd : decode M.2.1 pc = .ok (.invokespecial idx, 3)) (hw : Cond.methodLink M.1.cls idx objectInit ∈ xW) (hw2 : Cond.instanceMethod objectInit ∈ xW) (hw3 : Cond.code objectInit ⟨#[0xb1]⟩ 1 none ∈ xW) (hlv : 1 ≤ M.2.2.2.2) (hr : (st.map fun v => v.category).sum ≤ 8) (kk : aw g l M (pc + 3) lv st h Q) : aw g l M pc lv (.ref q :: st) h Q := by
  refine aw_go (fun p e R s m args below meth c QQ H locs cells slots ls C hR hS hl kk => ?_) kk
  obtain ⟨hx, hb, hml, hown, hts, -, -, -, hK, hfr, hlo⟩ := C
  exact W.objInit hx hb hown (hts _ hw) (hts _ hw2) (hts _ hw3) rfl (by rw [hml]; exact hl.1) rfl hd (by omega) (by have := lv_room (m := m) (pc := pc) (ls := ls) (rest := .ref q :: st) hr; omega) (kk ls hl)
theorem x_copy {idx kd a0 a1 : Nat} {sp dp n : Int32} (hd : decode M.2.1 pc = .ok (.invokestatic idx, 3)) (hw : Cond.methodLink M.1.cls idx arraycopyName ∈ xW) (hw2 : Cond.native arraycopyName ∈ xW) (hw3 : Cond.static arraycopyName ∈ xW) (hw4 : Cond.initialized "java/lang/System" ∈ xW) (hlv : 1 ≤ M.2.2.2.2) (hr : (st.map fun v => v.category).sum ≤ 8) (hk : kd = 100 ∨ kd = 101) (ht0 : (xT h a0).1 = kd) (ht1 : (xT h a1).1 = kd)
    (h1 : ¬ sp < 0) (h2 : ¬ dp < 0) (h3 : ¬ n < 0) (h4 : sp.toNatClampNeg + n.toNatClampNeg ≤ (xT h a0).2) (h5 : dp.toNatClampNeg + n.toNatClampNeg ≤ (xT h a1).2) (hfit : kd = 101 → ∀ i, i < n.toNatClampNeg → fits .byte (.int (xI h a0 (sp.toNatClampNeg + i))) = true)
    (kk : aw g l M (pc + 3) lv st (xsR h a1 (va_cpy (xI h a0) (xI h a1) sp.toNatClampNeg dp.toNatClampNeg n.toNatClampNeg)) Q) : aw g l M pc lv (.int n :: .int dp :: .ref a1 :: .int sp :: .ref a0 :: st) h Q := by
  refine aw_wr (h2 := xsR h a1 (va_cpy (xI h a0) (xI h a1) sp.toNatClampNeg dp.toNatClampNeg n.toNatClampNeg)) rfl rfl (fun p e R s m args below meth c QQ H locs cells slots ls C hR hS hl kk => ?_) kk
  obtain ⟨hx, hb, hml, hown, hts, -, -, -, hK, hfr, hlo⟩ := C
  have nn : ∀ z : Int32, ¬ z < 0 → z.toInt = (z.toNatClampNeg : Int) := by
    intro z hz
    have hz0 : (0 : Int) ≤ z.toInt := by
      have := Int32.not_lt.mp hz
      simpa using Int32.le_iff_toInt_le.mp this
    show z.toInt = ((z.toInt.toNat : Nat) : Int)
    omega
  have hk2 : kd = 100 ∨ kd = 101 ∨ kd = 102 := by omega
  have hc0 := hR.ar hk2 ht0
  have hc1 := hR.ar hk2 ht1
  have hty : ∃ ty : FieldType, ArrOfT s (g.2.1 (xay kd)) ty ∧ refKind ty = false ∧ (∀ i, i < n.toNatClampNeg → fits ty (.int (xI h a0 (sp.toNatClampNeg + i))) = true) := by
    rcases hk with rfl | rfl
    · exact ⟨.int, hK.at (t := 0) rfl, rfl, fun _ _ => rfl⟩
    · exact ⟨.byte, hK.at (t := 1) rfl, rfl, hfit rfl⟩
  obtain ⟨ty, hAr, hprim, hfi⟩ := hty
  obtain ⟨-, k0, hk0, cm0, hkk0⟩ := hAr (xT h a0).2 (fun j => .int (xI h a0 j))
  obtain ⟨-, k1, hk1, cm1, hkk1⟩ := hAr (xT h a1).2 (fun j => .int (xI h a1 j))
  intro T hT X
  obtain ⟨vm', X', step⟩ := X.arraycopy hx hown (hts _ hw) (hts _ hw2) (hts _ hw3) (hts _ hw4) (src := a0) (dst := a1) (srcPos := sp) (destPos := dp) (n := n) (by rw [hT]; exact hc0) (by rw [hT]; exact hc1)
    (fun _ h => by cases h) (fun _ h => by cases h) (fun h => by cases h) (fun h => by cases h) hk0 hk1 hkk0 hkk1 (by simp [hprim]) h1 h2 h3
    (by rw [nn sp h1, nn n h3]; show ¬ _ > ((arrV _ _ _).slots.size : Int); rw [arrV_size]; omega)
    (by rw [nn dp h2, nn n h3]; show ¬ _ > ((arrV _ _ _).slots.size : Int); rw [arrV_size]; omega)
    (fun vm₁ _ i hi => by
      have e : (arrV (g.2.1 (xay kd)) (xT h a0).2 (fun j => Value.int (xI h a0 j))).slots.getD (sp.toNatClampNeg + i) .null = .int (xI h a0 (sp.toNatClampNeg + i)) := by
        rw [Array.getD_eq_getD_getElem?, arrV_read _ _ (by omega)]
        rfl
      refine ⟨?_, ?_⟩
      · rw [e]
        exact hfi i hi
      · rw [e]
        exact trivial)
    (g := F0 m pc ls (.int n :: .int dp :: .ref a1 :: .int sp :: .ref a0 :: st)) rfl (by rw [hml]; exact hl.1) (rest := st) rfl (by rw [hb]; exact hd) (by omega) (by
      have e9 : nativeFrameWords "java/lang/System" "arraycopy" 5 + 11 ≤ 32 := by decide +kernel
      show 2 * 0 + _ + _ ≤ _
      omega)
  have e1 : copied (arrV (g.2.1 (xay kd)) (xT h a0).2 (fun j => .int (xI h a0 j))) (arrV (g.2.1 (xay kd)) (xT h a1).2 (fun j => .int (xI h a1 j))) sp dp n = arrV (g.2.1 (xay kd)) (xT h a1).2 (fun j => .int (va_cpy (xI h a0) (xI h a1) sp.toNatClampNeg dp.toNatClampNeg n.toNatClampNeg j)) := va_copied (fun z => .int z) _ _ _ _ h4
  rw [e1] at X' step
  have hlt : a1 < H.size := (Array.getElem?_eq_some_iff.mp hc1).1
  generalize hcell : arrV (g.2.1 (xay kd)) (xT h a1).2 (fun j => .int (va_cpy (xI h a0) (xI h a1) sp.toNatClampNeg dp.toNatClampNeg n.toNatClampNeg j)) = cellN at X' step
  have hheap : ((T.setVm vm').setCell a1 cellN).heap = H.setIfInBounds a1 cellN := by rw [← hT]; rfl
  have oq : ∀ q : Nat, q ≠ a1 → (H.setIfInBounds a1 cellN)[q]? = H[q]? := fun q hq => by simp [Array.getElem?_setIfInBounds, Ne.symm hq]
  have hlo1 : xA g a1 := hR.lo (by omega)
  obtain ⟨t, k1, b1⟩ := kk ls (H.setIfInBounds a1 cellN) _ hl (hR.wr rfl rfl xsR_o (by simp) oq (by
      unfold xat
      rw [show xT (xsR h a1 (va_cpy (xI h a0) (xI h a1) sp.toNatClampNeg dp.toNatClampNeg n.toNatClampNeg)) = xT h from rfl, ht1, if_neg (by omega), if_neg (by omega), xrow_n (by omega), xsR_q, hcell]
      simp [Array.getElem?_setIfInBounds, hlt]))
    ⟨by simp; exact hS.1, fun q g1 g2 => by
      rw [oq q (fun e => g2 (by rw [e]; exact hlo1))]
      exact hS.2.1 q g1 g2, fun q hq => by
      rcases List.mem_append.mp hq with h | h
      · exact hS.2.2 q h
      · obtain ⟨z, -, hz⟩ := List.mem_map.mp h
        rw [← hz]
        exact hlo1⟩ _ hheap X'
  exact ⟨t, step t k1, b1⟩
end Make
/-! ===== calls ===== -/
def xroom (M : xM) (h h' : xH) : Room := { frames := M.2.2.2.2, cells := h'.1 - h.1, slots := h'.2.1 - h.2.1, locals := 40 * M.2.2.2.2 }
def xws (M : xM) : List Cond := Cond.code M.1 M.2.1 M.2.2.1 M.2.2.2.1 :: xW
def xpre (g : xG) (av : List Value) (h : xH) : Array Value → State → Prop := va_Pc av (fun U => xR g h U.heap ∧ xK g U)
def xpost (g : xG) (r : Option Value) (h' : xH) : Array Value → State → Outcome → State → Prop := fun _ st oc t => oc = .returned r ∧ xR g h' t.heap ∧ va_F (xA g) st t
/-- M with these arguments in h answers r and leaves h' -/
def ar (g : xG) (l : Launch) (M : xM) (av : List Value) (h : xH) (r : Option Value) (h' : xH) : Prop :=
  xmono h h' ∧ Met l M.1 (xws M) (xroom M h h') (xpre g av h) (xpost g r h') (h'.1 - h.1) (h'.2.1 - h.2.1) (xA g)
def ac (g : xG) (l : Launch) (M : xM) (av : List Value) (h : xH) (Q : Option Value → xH → Prop) : Prop := ∃ (r : Option Value) (h' : xH), ar g l M av h r h' ∧ Q r h'
theorem ac_mono {g : xG} {l : Launch} {M : xM} {av : List Value} {h : xH} {Q Q2 : Option Value → xH → Prop} (k : ac g l M av h Q) (hq : ∀ r h', Q r h' → Q2 r h') : ac g l M av h Q2 := by
  obtain ⟨r, h', kb, q⟩ := k
  exact ⟨r, h', kb, hq r h' q⟩
theorem ac_of {g : xG} {l : Launch} {M : xM} {av : List Value} {h : xH} {Q : Option Value → xH → Prop} (hp : plainName M.1.cls = true) (hn : (lg_sl av).length ≤ M.2.2.1) (k : aw g l M 0 (lv_args 0 av) [] h Q) : ac g l M av h Q := by
  obtain ⟨r, h', ⟨hm, kb⟩, q⟩ := k
  refine ⟨r, h', ⟨hm, ?_⟩, q⟩
  refine Met.ofW (cc := M.2.1) (maxL := M.2.2.1) (ret := M.2.2.2.1) (ws' := xW) hp rfl ?_
  intro p e s m args below meth c s₁ B hml hv
  obtain ⟨rfl, hR, hK⟩ := hv
  have hts := atoms_spec (ws := xws M) B.pre
  have hlocks := B.notSynchronized
  rw [lg_entry_eq]
  refine kb p e _ s m _ below meth c _ s.heap [] 0 0 _ ⟨B.exec, B.bytes, hml, findClass_of_methodNamed B.named, fun w hw => hts w (List.mem_cons_of_mem _ hw), B.returns, hlocks, (name_of_methodNamed B.named B.method).1, hK, Nat.le_refl _, Nat.le_refl _⟩ hR va_S.rf (lv_entry av hn) (by show 0 + (h'.1 - h.1) ≤ h'.1 - h.1; omega) (by show 0 + (h'.2.1 - h.2.1) ≤ h'.2.1 - h.2.1; omega) ?_
  intro H' locs' pc' ls' hR' hS' hret
  rw [Nat.zero_add, Nat.zero_add]
  have hq : ∀ t : State, t.heap = H' → s.WarmedH t.vm → xpost g r h' av.toArray s (.returned r) t := fun t ht _ => ⟨rfl, by rw [ht]; exact hR', hS'.F ht⟩
  have hret' := hret
  unfold xret at hret'
  split at hret'
  · exact W.vret B.exec B.bytes (B.returns.trans hret'.2) hq hS'.2.2 hret'.1
  · obtain ⟨hd, ty, h1, h2⟩ := hret'
    exact W.zret B.exec B.bytes (B.returns.trans h1) h2 hq hS'.2.2 hd
  · exact W.lret B.exec B.bytes (B.returns.trans hret'.2) hq hS'.2.2 hret'.1
  · obtain ⟨hd, n, h1⟩ := hret'
    exact W.aret B.exec B.bytes (B.returns.trans h1) (Or.inl ⟨n, rfl⟩) (Or.inr ⟨_, rfl⟩) hq hS'.2.2 hd
  · exact hret'.elim
theorem xK.warm {g : xG} {s U : State} {locs : List Loc} (hK : xK g s) (hW : s.WarmedH U.vm) (hS : va_S (xA g) s.heap U.heap locs) : xK g U := by
  refine ⟨va_K.moved hW.alike hK.1, ⟨va_AO.moved hW.alike hK.2.1.1, fun j n z => State.isArrayOf_alike hW.alike (hK.2.1.2 j n z)⟩, fun w hw => ?_, (hK.2.2.2.kept (H1 := U.heap) hS.2.1).moved hW.alike⟩
  have h1 := hK.2.2.1 w hw
  simp only [xNest, List.mem_cons, List.not_mem_nil, or_false] at hw
  rcases hw with rfl | rfl | rfl | rfl | rfl | rfl | rfl <;> first | exact va_Nw.warmM hW h1 | exact va_Nw.warmF hW h1
theorem xK.same {g : xG} {u U : State} (hK : xK g u) (hv : u.vm = U.vm) (hh : u.heap = U.heap) : xK g U := by
  have ha : u.vm.Alike U.vm := by rw [hv]; exact Vm.Alike.refl _
  refine ⟨va_K.moved ha hK.1, ⟨va_AO.moved ha hK.2.1.1, fun j n z => State.isArrayOf_alike ha (hK.2.1.2 j n z)⟩, fun w hw => ?_, ?_⟩
  · have h1 := hK.2.2.1 w hw
    simp only [xNest, List.mem_cons, List.not_mem_nil, or_false] at hw
    rcases hw with rfl | rfl | rfl | rfl | rfl | rfl | rfl <;> exact va_Nw.same rfl hv h1
  · have := hK.2.2.2.moved ha
    rwa [hh] at this
theorem xpre_blind {g : xG} {av : List Value} {h : xH} : FrameBlind (xpre g av h) := fun a U f mk q => ⟨q.1, q.2.1, q.2.2.same rfl rfl⟩
theorem xws_good {M N : xM} (hw : Cond.code N.1 N.2.1 N.2.2.1 N.2.2.2.1 ∈ xW) : GoodIn xW (xws N) := fun w h => by
  rcases List.mem_cons.mp h with rfl | h
  · exact ⟨hw, xW_good hw⟩
  · exact ⟨h, xW_good h⟩
section Call
variable {g : xG} {l : Launch} {M N : xM} {pc : Nat} {lv : List (Nat × Value)} {st : List Value} {h : xH} {Q : Option Value → xH → Prop}
/-- behind a call: whatever way it was made -/
theorem x_after {av rest : List Value} {st0 : List Value}
    (F : ∀ (r : Option Value) (h1 : xH), ar g l N av h r h1 → ∀ (p : Program) (e : Env) (R : Room) (s : State) (m : MethodId) (args : Array Value) (below : List Frame) (meth : Method) (c : Code) (H : Heap) (locs : List Loc) (cells slots : Nat) (ls : Array Slot),
      xC g M p R s m args meth c → xR g h H → va_S (xA g) s.heap H locs → lv_has ls M.2.2.1 lv → cells + (h1.1 - h.1) ≤ R.cells ∧ slots + (h1.2.1 - h.2.1) ≤ R.slots →
      va_Run p l e R s m args below meth c H locs cells slots (h1.1 - h.1) (h1.2.1 - h.2.1) (F0 m pc ls st0) rest (xpost g r h1 av.toArray) (xA g))
    (k : ac g l N av h (fun r h1 => aw g l M (pc + 3) lv (r.toList ++ rest) h1 Q)) : aw g l M pc lv st0 h Q := by
  obtain ⟨r, h1, ka, k2⟩ := k
  have hm := ka.1
  refine aw_mk (h2 := h1) hm.1 hm.2 (fun p e R s m args below meth c QQ H locs cells slots ls C hR hS hl z1 z2 kk => ?_) k2
  have hr := F r h1 ka p e R s m args below meth c H locs cells slots ls C hR hS hl ⟨z1, z2⟩
  intro T hT X
  obtain ⟨v, st₀, t, T', L, q0, X', hL, e1, e2, ⟨hv, hR1, hz, hk⟩, stp⟩ := hr T hT X
  cases hv
  rw [q0] at hz hk
  obtain ⟨t2, a1, b1⟩ := kk T'.heap (locs ++ L) (by rw [e1]; exact hR1)
    ⟨Nat.le_trans hS.1 (by rw [e1]; exact hz), fun q g1 g2 => by rw [e1, hk q (Nat.lt_of_lt_of_le g1 hS.1) g2]; exact hS.2.1 q g1 g2, fun q hq => by
      rcases List.mem_append.mp hq with h | h
      · exact hS.2.2 q h
      · exact hL q h⟩ T' rfl X'
  exact ⟨t2, stp t2 a1, b1⟩
theorem x_invV {idx ci b : Nat} {As rest : List Value} (hd : decode M.2.1 pc = .ok (.invokevirtual idx, 3)) (hc : ci < 12) (hcn : xNm ci = N.1.cls) (hw1 : Cond.methodLink M.1.cls idx N.1 ∈ xW) (hw2 : Cond.instanceMethod N.1 ∈ xW) (hw3 : Cond.selects N.1.cls N.1 N.1 ∈ xW) (hw4 : Cond.initialized N.1.cls ∈ xW) (hw5 : Cond.code N.1 N.2.1 N.2.2.1 N.2.2.2.1 ∈ xW)
    (hdd : N.1.cls ≠ "java/lang/invoke/MethodHandle" ∧ N.1.cls ≠ "java/lang/invoke/VarHandle" ∧ (parseMethodDescriptor N.1.desc).map (fun d => d.parameters.length) = some As.length) (hlv : N.2.2.2.2 + 1 ≤ M.2.2.2.2) (hml : N.2.2.1 ≤ 21) (hr : (rest.map fun v => v.category).sum ≤ 8) (ht : (xT h b).1 = ci)
    (k : ac g l N (.ref b :: As) h (fun r h1 => aw g l M (pc + 3) lv (r.toList ++ rest) h1 Q)) : aw g l M pc lv (As.reverse ++ .ref b :: rest) h Q := by
  refine x_after (fun r h1 ka p e R s m args below meth c H locs cells slots ls C hR hS hl hz => ?_) k
  obtain ⟨hx, hb, hmx, hown, hts, -, -, -, hK, hfr, hlo⟩ := C
  obtain ⟨cell, g1, g2, g3, -⟩ := hR.ob hc ht
  exact va_runV (Ts := xW) (C := N.1.cls) (bytes := N.2.1) (maxL := N.2.2.1) (ret := N.2.2.2.1) ⟨hx, hb, hmx, hown, hts⟩ ka.2
    ⟨callB_of As.length hts (xws_good (M := M) hw5) rfl rfl rfl (hts _ hw4) (hts _ hw1) hdd ⟨by show N.2.2.2.2 + 1 ≤ _; omega, by show 8 + (N.2.2.1 + 11) + 40 * N.2.2.2.2 ≤ _; omega⟩, hts _ hw2, hts _ hw3⟩
    ⟨xpre_blind, ⟨cell, g1, by rw [g3]; rfl, by rw [g2, ← hcn]; exact (hK.1.1 ci _ (xcl_of hc)).2.1⟩, fun U hU hW => ⟨rfl, by rw [hU]; exact hR, hK.warm hW (by rw [hU]; exact hS)⟩⟩ rfl rfl hl.1 rfl (lv_room hr) hd hz
theorem x_invS {idx : Nat} {As rest : List Value} (hd : decode M.2.1 pc = .ok (.invokestatic idx, 3)) (hw1 : Cond.methodLink M.1.cls idx N.1 ∈ xW) (hw2 : Cond.static N.1 ∈ xW) (hw4 : Cond.initialized N.1.cls ∈ xW) (hw5 : Cond.code N.1 N.2.1 N.2.2.1 N.2.2.2.1 ∈ xW)
    (hdd : N.1.cls ≠ "java/lang/invoke/MethodHandle" ∧ N.1.cls ≠ "java/lang/invoke/VarHandle" ∧ (parseMethodDescriptor N.1.desc).map (fun d => d.parameters.length) = some As.length) (hlv : N.2.2.2.2 + 1 ≤ M.2.2.2.2) (hml : N.2.2.1 ≤ 21) (hr : (rest.map fun v => v.category).sum ≤ 8)
    (k : ac g l N As h (fun r h1 => aw g l M (pc + 3) lv (r.toList ++ rest) h1 Q)) : aw g l M pc lv (As.reverse ++ rest) h Q := by
  refine x_after (fun r h1 ka p e R s m args below meth c H locs cells slots ls C hR hS hl hz => ?_) k
  obtain ⟨hx, hb, hmx, hown, hts, -, -, -, hK, hfr, hlo⟩ := C
  exact va_runS (Ts := xW) (bytes := N.2.1) (maxL := N.2.2.1) (ret := N.2.2.2.1) ⟨hx, hb, hmx, hown, hts⟩ ka.2
    ⟨callB_of As.length hts (xws_good (M := M) hw5) rfl rfl rfl (hts _ hw4) (hts _ hw1) hdd ⟨by show N.2.2.2.2 + 1 ≤ _; omega, by show 8 + (N.2.2.1 + 11) + 40 * N.2.2.2.2 ≤ _; omega⟩, hts _ hw2⟩
    ⟨xpre_blind, fun U hU hW => ⟨rfl, by rw [hU]; exact hR, hK.warm hW (by rw [hU]; exact hS)⟩⟩ rfl rfl hl.1 rfl (lv_room hr) hd hz
theorem x_invI {idx b : Nat} {As rest : List Value} (hd : decode M.2.1 pc = .ok (.invokespecial idx, 3)) (hw1 : Cond.methodLink M.1.cls idx N.1 ∈ xW) (hw2 : Cond.instanceMethod N.1 ∈ xW) (hw4 : Cond.initialized N.1.cls ∈ xW) (hw5 : Cond.code N.1 N.2.1 N.2.2.1 none ∈ xW) (hnr : N.2.2.2.1 = none) (hin : N.1.name = "<init>")
    (hdd : N.1.cls ≠ "java/lang/invoke/MethodHandle" ∧ N.1.cls ≠ "java/lang/invoke/VarHandle" ∧ (parseMethodDescriptor N.1.desc).map (fun d => d.parameters.length) = some As.length) (hlv : N.2.2.2.2 + 1 ≤ M.2.2.2.2) (hml : N.2.2.1 ≤ 21) (hr : (rest.map fun v => v.category).sum ≤ 8)
    (k : ac g l N (.ref b :: As) h (fun r h1 => aw g l M (pc + 3) lv (r.toList ++ rest) h1 Q)) : aw g l M pc lv (As.reverse ++ .ref b :: rest) h Q := by
  refine x_after (fun r h1 ka p e R s m args below meth c H locs cells slots ls C hR hS hl hz => ?_) k
  obtain ⟨hx, hb, hmx, hown, hts, -, -, -, hK, hfr, hlo⟩ := C
  exact va_runI (Ts := xW) (bytes := N.2.1) (maxL := N.2.2.1) ⟨hx, hb, hmx, hown, hts⟩ ka.2
    ⟨callB_of As.length hts (xws_good (M := M) (by rw [hnr]; exact hw5)) (by unfold xws; rw [hnr]) rfl rfl (hts _ hw4) (hts _ hw1) hdd ⟨by show N.2.2.2.2 + 1 ≤ _; omega, by show 8 + (N.2.2.1 + 11) + 40 * N.2.2.2.2 ≤ _; omega⟩, hin, hts _ hw2⟩
    ⟨xpre_blind, fun U hU hW => ⟨rfl, by rw [hU]; exact hR, hK.warm hW (by rw [hU]; exact hS)⟩⟩ rfl rfl hl.1 rfl (lv_room hr) hd hz
theorem x_invN {idx b : Nat} {host : String} {As rest : List Value} (hd : decode M.2.1 pc = .ok (.invokespecial idx, 3)) (hw1 : Cond.methodLinkNest M.1.cls idx N.1 host ∈ xNest) (hw2 : Cond.instanceMethod N.1 ∈ xW) (hw4 : Cond.initialized N.1.cls ∈ xW) (hw5 : Cond.code N.1 N.2.1 N.2.2.1 none ∈ xW) (hnr : N.2.2.2.1 = none) (hin : N.1.name = "<init>")
    (hdd : N.1.cls ≠ "java/lang/invoke/MethodHandle" ∧ N.1.cls ≠ "java/lang/invoke/VarHandle" ∧ (parseMethodDescriptor N.1.desc).map (fun d => d.parameters.length) = some As.length) (hlv : N.2.2.2.2 + 1 ≤ M.2.2.2.2) (hml : N.2.2.1 ≤ 21) (hr : (rest.map fun v => v.category).sum ≤ 8)
    (k : ac g l N (.ref b :: As) h (fun r h1 => aw g l M (pc + 3) lv (r.toList ++ rest) h1 Q)) : aw g l M pc lv (As.reverse ++ .ref b :: rest) h Q := by
  refine x_after (fun r h1 ka p e R s m args below meth c H locs cells slots ls C hR hS hl hz => ?_) k
  obtain ⟨hx, hb, hmx, hown, hts, -, -, -, hK, hfr, hlo⟩ := C
  exact va_runIN (Ts := xW) (host := host) (bytes := N.2.1) (maxL := N.2.2.1) ⟨hx, hb, hmx, hown, hts⟩ ka.2
    ⟨va_cnB As.length hts (xws_good (M := M) (by rw [hnr]; exact hw5)) (by unfold xws; rw [hnr]) rfl rfl (hK.2.2.1 _ hw1) (hts _ hw4) hdd ⟨by show N.2.2.2.2 + 1 ≤ _; omega, by show 8 + (N.2.2.1 + 11) + 40 * N.2.2.2.2 ≤ _; omega⟩, hin, hts _ hw2⟩
    ⟨xpre_blind, fun U hU hW => ⟨rfl, by rw [hU]; exact hR, hK.warm hW (by rw [hU]; exact hS)⟩⟩ rfl rfl hl.1 rfl (lv_room hr) hd hz
end Call
