/-! ===== the abstract machine: objects and rows of ints and references by address; a judgement over it that is sound by W ===== -/
abbrev xH : Type := Nat × Nat × (Nat → Nat × Nat) × (Nat → Nat → Int32) × (Nat → Nat → Option Nat)
/-- number and length of what lies at an address: 0..11 an object of that class, 100 int[], 101 byte[], 102 boolean[], 103 Value[], 104 int[] that is never written -/
def xT (h : xH) : Nat → Nat × Nat := h.2.2.1
def xI (h : xH) : Nat → Nat → Int32 := h.2.2.2.1
def xP (h : xH) : Nat → Nat → Option Nat := h.2.2.2.2
def xup2 {α : Type} (f : Nat → Nat → α) (q k : Nat) (v : α) : Nat → Nat → α := fun a j => if a = q then (if j = k then v else f a j) else f a j
def xsI (h : xH) (q k : Nat) (v : Int32) : xH := (h.1, h.2.1, h.2.2.1, xup2 h.2.2.2.1 q k v, h.2.2.2.2)
def xsP (h : xH) (q k : Nat) (v : Option Nat) : xH := (h.1, h.2.1, h.2.2.1, h.2.2.2.1, xup2 h.2.2.2.2 q k v)
/-- a whole row of ints anew -/
def xsR (h : xH) (q : Nat) (f : Nat → Int32) : xH := (h.1, h.2.1, h.2.2.1, va_up h.2.2.2.1 q f, h.2.2.2.2)
def xnew (h : xH) (kind len : Nat) : xH := (h.1 + 1, h.2.1 + len, va_up h.2.2.1 h.1 (kind, len), va_up h.2.2.2.1 h.1 (fun _ => 0), va_up h.2.2.2.2 h.1 (fun _ => none))
def xNm (ci : Nat) : String := match ci with
  | 0 => RX0 | 1 => RX1 | 2 => RX2 | 3 => RX3 | 4 => RX4 | 5 => RX5 | 6 => RX6 | 7 => RX7 | 8 => RX8 | 9 => RX9 | 10 => RX10 | _ => RX11
def xTT (ci : Nat) : u_T := match ci with
  | 0 => TX0 | 1 => TX1 | 2 => TX2 | 3 => TX3 | 4 => TX4 | 5 => TX5 | 6 => TX6 | 7 => TX7 | 8 => TX8 | 9 => TX9 | 10 => TX10 | _ => TX11
def xty (ci : Nat) : Nat → FieldType := match ci with
  | 0 => tyX0 | 1 => tyX1 | 2 => tyX2 | 3 => tyX3 | 4 => tyX4 | 5 => tyX5 | 6 => tyX6 | 7 => tyX7 | 8 => tyX8 | 9 => tyX9 | 10 => tyX10 | _ => tyX11
def xN (ci : Nat) : Nat := match ci with
  | 0 => 9 | 1 => 13 | 2 => 4 | 3 => 4 | 4 => 3 | 5 => 2 | 6 => 5 | 7 => 12 | 8 => 6 | 9 => 4 | 10 => 11 | _ => 48
def xRf (ty : FieldType) : Bool := match ty with
  | .object _ => true
  | .array _ => true
  | _ => false
theorem xcl_of {ci : Nat} (h : ci < 12) : vwCl[ci]? = some (xNm ci, xTT ci, xN ci) := by
  match ci, h with
  | 0, _ | 1, _ | 2, _ | 3, _ | 4, _ | 5, _ | 6, _ | 7, _ | 8, _ | 9, _ | 10, _ | 11, _ => rfl
theorem xty_ok {ci : Nat} (h : ci < 12) : ∀ k, k < xN ci → parseFieldDescriptor (xTT ci k).2.2.1 = some (xty ci k) := by
  match ci, h with
  | 0, _ => exact tyX0_ok
  | 1, _ => exact tyX1_ok
  | 2, _ => exact tyX2_ok
  | 3, _ => exact tyX3_ok
  | 4, _ => exact tyX4_ok
  | 5, _ => exact tyX5_ok
  | 6, _ => exact tyX6_ok
  | 7, _ => exact tyX7_ok
  | 8, _ => exact tyX8_ok
  | 9, _ => exact tyX9_ok
  | 10, _ => exact tyX10_ok
  | 11, _ => exact tyX11_ok
theorem xnm_ok {ci : Nat} (h : ci < 12) : ∀ a, a < xN ci → ∀ b, b < xN ci → a ≠ b → (xTT ci a).2.1 ≠ (xTT ci b).2.1 := by
  match ci, h with
  | 0, _ => exact nmX0
  | 1, _ => exact nmX1
  | 2, _ => exact nmX2
  | 3, _ => exact nmX3
  | 4, _ => exact nmX4
  | 5, _ => exact nmX5
  | 6, _ => exact nmX6
  | 7, _ => exact nmX7
  | 8, _ => exact nmX8
  | 9, _ => exact nmX9
  | 10, _ => exact nmX10
  | 11, _ => exact nmX11
/-- the words that stay: what every method may use -/
def xW : List Cond := lw_tbl.filter goodWord
theorem xW_of {w : Cond} (h : w ∈ lw_tbl) (hg : goodWord w = true) : w ∈ xW := List.mem_filter.mpr ⟨h, hg⟩
theorem xW_at {w : Cond} (i : Nat) (h : lw_tbl[i]? = some w) (hg : goodWord w = true) : w ∈ xW := xW_of (List.mem_of_getElem? h) hg
theorem xW_good {w : Cond} (h : w ∈ xW) : (w.onTables && w.keeps) = true ∨ ∃ ty, w = .arrayClass ty := good_of_word (List.mem_filter.mp h).2
set_option maxRecDepth 100000 in
theorem xin0 : ∀ ci, ci < 12 → ∀ w ∈ u_ws (xNm ci) (xTT ci) (xN ci), w ∈ lw_tbl ∧ goodWord w = true := by decide +kernel
theorem xin {ci : Nat} (h : ci < 12) : ∀ w ∈ u_ws (xNm ci) (xTT ci) (xN ci), w ∈ xW := fun w hw => xW_of (xin0 ci h w hw).1 (xin0 ci h w hw).2
/-- D, the rows' classes, the lowest address that may be written, where TENS lies -/
abbrev xG : Type := va_G × (Nat → ClassId) × Nat × Nat
def xA (g : xG) : Nat → Prop := fun q => g.2.2.1 ≤ q
abbrev xtys (g : xG) : List (ClassId × FieldType) := [(g.2.1 0, .int), (g.2.1 1, .byte), (g.2.1 2, .boolean), (g.2.1 3, .object RX9)]
def xval (ci k : Nat) (i : Int32) (r : Option Nat) : Value := if xRf (xty ci k) = true then va_rf r else .int i
def xay (kind : Nat) : Nat := match kind with
  | 101 => 1
  | 102 => 2
  | _ => 0
/-- a row of ints that was there before and is never written: of its cell only what can be read is known -/
def xfix (g : xG) (H : Heap) (q len : Nat) (f : Nat → Int32) : Prop := ∃ (cell : Cell) (j : Nat), H[q]? = some cell ∧ cell.cls = g.2.1 (4 + j) ∧ (∀ k, cell.vm ≠ .statics k) ∧ cell.vm ≠ .unknown ∧ cell.slots.size = len ∧ ∀ i, i < len → cell.slots[i]? = some (.int (f i))
def xrow (g : xG) (H : Heap) (q kd len : Nat) (f : Nat → Int32) : Prop := if kd = 104 then xfix g H q len f else H[q]? = some (arrV (g.2.1 (xay kd)) len (fun j => .int (f j)))
theorem xrow_n {g : xG} {H : Heap} {q kd len : Nat} {f : Nat → Int32} (hk : kd ≠ 104) : xrow g H q kd len f = (H[q]? = some (arrV (g.2.1 (xay kd)) len (fun j => .int (f j)))) := by
  unfold xrow
  rw [if_neg hk]
def xat (g : xG) (h : xH) (H : Heap) (q : Nat) : Prop :=
  if (xT h q).1 < 12 then t_OB q (g.1.1 (xT h q).1) (xN (xT h q).1) (g.1.2 (xT h q).1) H (fun k => xval (xT h q).1 k (xI h q k) (xP h q k))
  else if (xT h q).1 = 103 then H[q]? = some (arrV (g.2.1 3) (xT h q).2 (fun j => va_rf (xP h q j)))
  else xrow g H q (xT h q).1 (xT h q).2 (xI h q)
def xR (g : xG) (h : xH) (H : Heap) : Prop := H.size = h.1 ∧ (∀ q, (xT h q).1 ≤ 104 → xat g h H q) ∧ (∀ q, h.1 ≤ q → 104 < (xT h q).1) ∧ (∀ q, (xT h q).1 < 104 → g.2.2.1 ≤ q)
abbrev xNest : List Cond := [.methodLinkNest "MeasureBook" 15 yX1_init "MeasureBook", .methodLinkNest "MeasureBook$Book" 17 yX2_init "MeasureBook", .methodLinkNest "MeasureBook" 22 yX6_init "MeasureBook", .methodLinkNest "MeasureBook$Parser" 11 yX8_init "MeasureBook", .methodLinkNest "MeasureBook" 29 yX3_init "MeasureBook", .fieldLinkNest "MeasureBook$Natural" 40 "MeasureBook" "TENS" "[I" "MeasureBook", .fieldLinkNest "MeasureBook$Decimals" 35 "MeasureBook" "TENS" "[I" "MeasureBook"]
def xK (g : xG) (U : State) : Prop := va_K g.1 vwCl (xtys g) U ∧ (va_AO RX9 U ∧ ∀ j, ArrOfT U (g.2.1 (4 + j)) .int) ∧ (∀ w ∈ xNest, va_Nw w U) ∧ va_Z "MeasureBook" "TENS" "[I" (.ref g.2.2.2) (xA g) U U.heap
/-- a method: name, code, locals, what it returns, how deep it calls -/
abbrev xM : Type := MethodName × ByteArray × Nat × Option FieldType × Nat
def xC (g : xG) (M : xM) (p : Program) (R : Room) (s : State) (m : MethodId) (args : Array Value) (meth : Method) (c : Code) : Prop :=
  p.tables.exec = Jvm.exec ∧ c.code = M.2.1 ∧ c.maxLocals = M.2.2.1 ∧ s.vm.findClass M.1.cls = some m.cls ∧ (∀ w ∈ xW, w.before args s = true) ∧ meth.sig.returnType = M.2.2.2.1 ∧ meth.locks = false ∧ meth.name = M.1.name ∧ xK g s ∧ M.2.2.2.2 ≤ R.frames ∧ 40 * M.2.2.2.2 ≤ R.locals
def xret (M : xM) (pc : Nat) (r : Option Value) : Prop := match r with
  | none => decode M.2.1 pc = .ok (.return_, 1) ∧ M.2.2.2.1 = none
  | some (.int v) => decode M.2.1 pc = .ok (.ireturn, 1) ∧ ∃ ty, M.2.2.2.1 = some ty ∧ narrow ty (.int v) = .int v
  | some (.long _) => decode M.2.1 pc = .ok (.lreturn, 1) ∧ M.2.2.2.1 = some .long
  | some (.ref _) => decode M.2.1 pc = .ok (.areturn, 1) ∧ ∃ n, M.2.2.2.1 = some (.object n)
  | _ => False
def xmono (h h' : xH) : Prop := h.1 ≤ h'.1 ∧ h.2.1 ≤ h'.2.1
/-- from here the body of M comes to its end with r and h' -/
def ab (g : xG) (l : Launch) (M : xM) (pc : Nat) (lv : List (Nat × Value)) (st : List Value) (h : xH) (r : Option Value) (h' : xH) : Prop :=
  xmono h h' ∧ ∀ (p : Program) (e : Env) (R : Room) (s : State) (m : MethodId) (args : Array Value) (below : List Frame) (meth : Method) (c : Code) (Q : State → Prop) (H : Heap) (locs : List Loc) (cells slots : Nat) (ls : Array Slot),
    xC g M p R s m args meth c → xR g h H → va_S (xA g) s.heap H locs → lv_has ls M.2.2.1 lv → cells + (h'.1 - h.1) ≤ R.cells → slots + (h'.2.1 - h.2.1) ≤ R.slots →
    (∀ (H' : Heap) (locs' : List Loc) (pc' : Nat) (ls' : Array Slot), xR g h' H' → va_S (xA g) s.heap H' locs' → xret M pc' r → W p l e R s m args below meth c H' locs' (cells + (h'.1 - h.1)) (slots + (h'.2.1 - h.2.1)) Q (F0 m pc' ls' r.toList)) →
    W p l e R s m args below meth c H locs cells slots Q (F0 m pc ls st)
def aw (g : xG) (l : Launch) (M : xM) (pc : Nat) (lv : List (Nat × Value)) (st : List Value) (h : xH) (Q : Option Value → xH → Prop) : Prop := ∃ (r : Option Value) (h' : xH), ab g l M pc lv st h r h' ∧ Q r h'
/-- a step that leaves the heap as it is -/
theorem aw_go {g : xG} {l : Launch} {M : xM} {pc pc2 : Nat} {lv lv2 : List (Nat × Value)} {st st2 : List Value} {h : xH} {Q : Option Value → xH → Prop}
    (F : ∀ (p : Program) (e : Env) (R : Room) (s : State) (m : MethodId) (args : Array Value) (below : List Frame) (meth : Method) (c : Code) (QQ : State → Prop) (H : Heap) (locs : List Loc) (cells slots : Nat) (ls : Array Slot),
      xC g M p R s m args meth c → xR g h H → va_S (xA g) s.heap H locs → lv_has ls M.2.2.1 lv → (∀ ls2 : Array Slot, lv_has ls2 M.2.2.1 lv2 → W p l e R s m args below meth c H locs cells slots QQ (F0 m pc2 ls2 st2)) → W p l e R s m args below meth c H locs cells slots QQ (F0 m pc ls st))
    (k : aw g l M pc2 lv2 st2 h Q) : aw g l M pc lv st h Q := by
  obtain ⟨r, h', ⟨hm, kb⟩, q⟩ := k
  refine ⟨r, h', ⟨hm, fun p e R s m args below meth c QQ H locs cells slots ls C hR hS hl h1 h2 kk => ?_⟩, q⟩
  exact F p e R s m args below meth c QQ H locs cells slots ls C hR hS hl fun ls2 hl2 => kb p e R s m args below meth c QQ H locs cells slots ls2 C hR hS hl2 h1 h2 kk
/-- a step that changes cells and makes none -/
theorem aw_wr {g : xG} {l : Launch} {M : xM} {pc pc2 : Nat} {lv lv2 : List (Nat × Value)} {st st2 : List Value} {h h2 : xH} {Q : Option Value → xH → Prop} (e1 : h2.1 = h.1) (e2 : h2.2.1 = h.2.1)
    (F : ∀ (p : Program) (e : Env) (R : Room) (s : State) (m : MethodId) (args : Array Value) (below : List Frame) (meth : Method) (c : Code) (QQ : State → Prop) (H : Heap) (locs : List Loc) (cells slots : Nat) (ls : Array Slot),
      xC g M p R s m args meth c → xR g h H → va_S (xA g) s.heap H locs → lv_has ls M.2.2.1 lv → (∀ (ls2 : Array Slot) (H2 : Heap) (locs2 : List Loc), lv_has ls2 M.2.2.1 lv2 → xR g h2 H2 → va_S (xA g) s.heap H2 locs2 → W p l e R s m args below meth c H2 locs2 cells slots QQ (F0 m pc2 ls2 st2)) → W p l e R s m args below meth c H locs cells slots QQ (F0 m pc ls st))
    (k : aw g l M pc2 lv2 st2 h2 Q) : aw g l M pc lv st h Q := by
  obtain ⟨r, h', ⟨hm, kb⟩, q⟩ := k
  unfold xmono at hm
  rw [e1, e2] at hm kb
  refine ⟨r, h', ⟨hm, fun p e R s m args below meth c QQ H locs cells slots ls C hR hS hl h1 h2 kk => ?_⟩, q⟩
  exact F p e R s m args below meth c QQ H locs cells slots ls C hR hS hl fun ls2 H2 locs2 hl2 hR2 hS2 => kb p e R s m args below meth c QQ H2 locs2 cells slots ls2 C hR2 hS2 hl2 h1 h2 kk
/-- a step that makes cells -/
theorem aw_mk {g : xG} {l : Launch} {M : xM} {pc pc2 : Nat} {lv : List (Nat × Value)} {st st2 : List Value} {h h2 : xH} {Q : Option Value → xH → Prop} (e1 : h.1 ≤ h2.1) (e2 : h.2.1 ≤ h2.2.1)
    (F : ∀ (p : Program) (e : Env) (R : Room) (s : State) (m : MethodId) (args : Array Value) (below : List Frame) (meth : Method) (c : Code) (QQ : State → Prop) (H : Heap) (locs : List Loc) (cells slots : Nat) (ls : Array Slot),
      xC g M p R s m args meth c → xR g h H → va_S (xA g) s.heap H locs → lv_has ls M.2.2.1 lv → cells + (h2.1 - h.1) ≤ R.cells → slots + (h2.2.1 - h.2.1) ≤ R.slots → (∀ (H2 : Heap) (locs2 : List Loc), xR g h2 H2 → va_S (xA g) s.heap H2 locs2 → W p l e R s m args below meth c H2 locs2 (cells + (h2.1 - h.1)) (slots + (h2.2.1 - h.2.1)) QQ (F0 m pc2 ls st2)) → W p l e R s m args below meth c H locs cells slots QQ (F0 m pc ls st))
    (k : aw g l M pc2 lv st2 h2 Q) : aw g l M pc lv st h Q := by
  obtain ⟨r, h', ⟨hm, kb⟩, q⟩ := k
  refine ⟨r, h', ⟨⟨Nat.le_trans e1 hm.1, Nat.le_trans e2 hm.2⟩, fun p e R s m args below meth c QQ H locs cells slots ls C hR hS hl h1 h2' kk => ?_⟩, q⟩
  have hm1 := hm.1
  have hm2 := hm.2
  refine F p e R s m args below meth c QQ H locs cells slots ls C hR hS hl (by omega) (by omega) fun H2 locs2 hR2 hS2 => ?_
  refine kb p e R s m args below meth c QQ H2 locs2 (cells + (h2.1 - h.1)) (slots + (h2.2.1 - h.2.1)) ls C hR2 hS2 hl (by omega) (by omega) ?_
  rw [show cells + (h2.1 - h.1) + (h'.1 - h2.1) = cells + (h'.1 - h.1) by omega, show slots + (h2.2.1 - h.2.1) + (h'.2.1 - h2.2.1) = slots + (h'.2.1 - h.2.1) by omega]
  exact kk
theorem aw_mono {g : xG} {l : Launch} {M : xM} {pc : Nat} {lv : List (Nat × Value)} {st : List Value} {h : xH} {Q Q2 : Option Value → xH → Prop} (k : aw g l M pc lv st h Q) (hq : ∀ r h', Q r h' → Q2 r h') : aw g l M pc lv st h Q2 := by
  obtain ⟨r, h', kb, q⟩ := k
  exact ⟨r, h', kb, hq r h' q⟩
/-- fewer locals, in another order -/
theorem aw_lv {g : xG} {l : Launch} {M : xM} {pc : Nat} {lv lv2 : List (Nat × Value)} {st : List Value} {h : xH} {Q : Option Value → xH → Prop} (hs : ∀ q ∈ lv2, q ∈ lv) (k : aw g l M pc lv2 st h Q) : aw g l M pc lv st h Q :=
  aw_go (fun p e R s m args below meth c QQ H locs cells slots ls C hR hS hl kk => kk ls ⟨hl.1, hl.2.1, fun q hq => hl.2.2 q (hs q hq)⟩) k
/-! locals -/
def xlk (i : Nat) : List (Nat × Value) → Option Value
  | [] => none
  | q :: t => cond (Nat.beq q.1 i) (some q.2) (xlk i t)
theorem xlk_mem {i : Nat} {v : Value} : ∀ {lv : List (Nat × Value)}, xlk i lv = some v → (i, v) ∈ lv
  | [], h => by cases h
  | (j, w) :: t, h => by
    unfold xlk at h
    cases hb : Nat.beq j i with
    | true =>
      rw [show Nat.beq (j, w).1 i = true from hb] at h
      have e : j = i := Nat.eq_of_beq_eq_true hb
      cases h
      subst e
      exact List.mem_cons_self
    | false =>
      rw [show Nat.beq (j, w).1 i = false from hb] at h
      exact List.mem_cons_of_mem _ (xlk_mem h)
def xkp (i : Nat) (q : Nat × Value) : Bool := !(q.1 == i) && !(q.1 + 1 == i && q.2.category == 2)
def xkl (i : Nat) (q : Nat × Value) : Bool := !(q.1 == i) && (!(q.1 == i + 1) && !(q.1 + 1 == i && q.2.category == 2))
def xup (K : Nat × Value → Bool) (i : Nat) (v : Value) : List (Nat × Value) → List (Nat × Value)
  | [] => [(i, v)]
  | q :: t => cond (Nat.beq q.1 i) ((i, v) :: t.filter K) (cond (K q) (q :: xup K i v t) (xup K i v t))
theorem xup_mem {K : Nat × Value → Bool} {i : Nat} {v : Value} : ∀ {lv : List (Nat × Value)} {q : Nat × Value}, q ∈ xup K i v lv → q ∈ (i, v) :: lv.filter K
  | [], q, h => by simpa [xup] using h
  | r :: t, q, h => by
    unfold xup at h
    cases hb : Nat.beq r.1 i with
    | true =>
      rw [hb] at h
      rcases List.mem_cons.mp h with h | h
      · rw [h]; exact List.mem_cons_self
      · exact List.mem_cons_of_mem _ (List.mem_filter.mpr ⟨List.mem_cons_of_mem _ (List.mem_filter.mp h).1, (List.mem_filter.mp h).2⟩)
    | false =>
      rw [hb] at h
      have ih : ∀ q, q ∈ xup K i v t → q ∈ (i, v) :: (r :: t).filter K := fun q h => by
        rcases List.mem_cons.mp (xup_mem h) with h | h
        · rw [h]; exact List.mem_cons_self
        · exact List.mem_cons_of_mem _ (List.mem_filter.mpr ⟨List.mem_cons_of_mem _ (List.mem_filter.mp h).1, (List.mem_filter.mp h).2⟩)
      cases hk : K r with
      | true =>
        rw [hk] at h
        rcases List.mem_cons.mp h with h | h
        · rw [h]; exact List.mem_cons_of_mem _ (List.mem_filter.mpr ⟨List.mem_cons_self, hk⟩)
        · exact ih q h
      | false =>
        rw [hk] at h
        exact ih q h
theorem xup_has {ls : Array Slot} {nL : Nat} {lv : List (Nat × Value)} {K : Nat × Value → Bool} {i : Nat} {v : Value} (h : lv_has ls nL ((i, v) :: lv.filter K)) : lv_has ls nL (xup K i v lv) := ⟨h.1, h.2.1, fun q hq => h.2.2 q (xup_mem hq)⟩
theorem xlk_at {ls : Array Slot} {nL : Nat} {lv : List (Nat × Value)} {i : Nat} {v : Value} (h : lv_has ls nL lv) (hl : xlk i lv = some v) : ls[i]? = some (.val v) := h.2.2 (i, v) (xlk_mem hl)
theorem xlk_get {lv : List (Nat × Value)} {i : Nat} {v : Value} (hl : xlk i lv = some v) : ∃ k : Nat, lv[k]? = some (i, v) := List.getElem?_of_mem (xlk_mem hl)
