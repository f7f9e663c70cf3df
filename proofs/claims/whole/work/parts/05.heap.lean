theorem xat_kept {g : xG} {h h2 : xH} {H H1 : Heap} {a : Nat} (k : xat g h H a) (eT : xT h2 a = xT h a) (eI : xI h2 a = xI h a) (eP : xP h2 a = xP h a) (e : H1[a]? = H[a]?) : xat g h2 H1 a := by
  unfold xat at k ⊢
  rw [eT, eI, eP]
  split at k
  · rename_i h1
    rw [if_pos h1]
    exact k.kept e
  · rename_i h1
    rw [if_neg h1]
    split at k
    · rename_i h3
      rw [if_pos h3, e]; exact k
    · rename_i h3
      rw [if_neg h3]
      unfold xrow xfix at k ⊢
      rw [e]; exact k
theorem xR.wr {g : xG} {h h2 : xH} {H H1 : Heap} {q : Nat} (hR : xR g h H) (e1 : h2.1 = h.1) (eT : xT h2 = xT h) (eo : ∀ a, a ≠ q → xI h2 a = xI h a ∧ xP h2 a = xP h a) (z : H1.size = H.size) (oq : ∀ a : Nat, a ≠ q → H1[a]? = H[a]?) (hq : xat g h2 H1 q) : xR g h2 H1 := by
  obtain ⟨r1, r2, r3, r4⟩ := hR
  refine ⟨by rw [z, r1, e1], fun a ha => ?_, fun a ha => by rw [eT]; exact r3 a (by rw [← e1]; exact ha), fun a ha => r4 a (by rw [← eT]; exact ha)⟩
  by_cases hE : a = q
  · rw [hE]; exact hq
  · rw [eT] at ha
    exact xat_kept (r2 a ha) (by rw [eT]) (eo a hE).1 (eo a hE).2 (oq a hE)
theorem xsI_o {h : xH} {q k : Nat} {v : Int32} : ∀ a, a ≠ q → xI (xsI h q k v) a = xI h a ∧ xP (xsI h q k v) a = xP h a := by
  intro a ha
  refine ⟨?_, rfl⟩
  funext j
  show xup2 h.2.2.2.1 q k v a j = _
  unfold xup2
  rw [if_neg ha]
  rfl
theorem xsP_o {h : xH} {q k : Nat} {v : Option Nat} : ∀ a, a ≠ q → xI (xsP h q k v) a = xI h a ∧ xP (xsP h q k v) a = xP h a := by
  intro a ha
  refine ⟨rfl, ?_⟩
  funext j
  show xup2 h.2.2.2.2 q k v a j = _
  unfold xup2
  rw [if_neg ha]
  rfl
theorem xsR_o {h : xH} {q : Nat} {f : Nat → Int32} : ∀ a, a ≠ q → xI (xsR h q f) a = xI h a ∧ xP (xsR h q f) a = xP h a := by
  intro a ha
  refine ⟨?_, rfl⟩
  show va_up h.2.2.2.1 q f a = _
  unfold va_up
  rw [if_neg ha]
  rfl
theorem xsI_q {h : xH} {q k : Nat} {v : Int32} : xI (xsI h q k v) q = upd (xI h q) k v := by
  funext j
  show xup2 h.2.2.2.1 q k v q j = _
  unfold xup2 upd
  rw [if_pos rfl]
  rfl
theorem xsP_q {h : xH} {q k : Nat} {v : Option Nat} : xP (xsP h q k v) q = va_up (xP h q) k v := by
  funext j
  show xup2 h.2.2.2.2 q k v q j = _
  unfold xup2 va_up
  rw [if_pos rfl]
  rfl
theorem xsR_q {h : xH} {q : Nat} {f : Nat → Int32} : xI (xsR h q f) q = f := by
  show va_up h.2.2.2.1 q f q = _
  simp [va_up]
theorem xK.at {g : xG} {U : State} (h : xK g U) {t : Nat} {x : ClassId × FieldType} (ht : (xtys g)[t]? = some x) : ArrOfT U x.1 x.2 := (h.1.2 t x ht).1
theorem xR.lo {g : xG} {h : xH} {H : Heap} {q : Nat} (hR : xR g h H) (ht : (xT h q).1 < 104) : xA g q := hR.2.2.2 q ht
theorem xR.ob {g : xG} {h : xH} {H : Heap} {q ci : Nat} (hR : xR g h H) (hc : ci < 12) (ht : (xT h q).1 = ci) : t_OB q (g.1.1 ci) (xN ci) (g.1.2 ci) H (fun k => xval ci k (xI h q k) (xP h q k)) := by
  subst ht
  have := hR.2.1 q (by omega)
  unfold xat at this
  rwa [if_pos hc] at this
theorem xR.ar {g : xG} {h : xH} {H : Heap} {q kd : Nat} (hR : xR g h H) (hk : kd = 100 ∨ kd = 101 ∨ kd = 102) (ht : (xT h q).1 = kd) : H[q]? = some (arrV (g.2.1 (xay kd)) (xT h q).2 (fun j => .int (xI h q j))) := by
  subst ht
  have := hR.2.1 q (by omega)
  unfold xat at this
  rwa [if_neg (by omega), if_neg (by omega), xrow_n (by omega)] at this
theorem xR.fx {g : xG} {h : xH} {H : Heap} {q : Nat} (hR : xR g h H) (ht : (xT h q).1 = 104) : xfix g H q (xT h q).2 (xI h q) := by
  have := hR.2.1 q (by omega)
  unfold xat xrow at this
  rwa [if_neg (by omega), if_neg (by omega), if_pos ht] at this
theorem ArrOfT_cell {U : State} {cell : Cell} {ty : FieldType} {cA : ClassId} (h : ArrOfT U cA ty) (e : cell.cls = cA) (hv : ∀ k, cell.vm ≠ .statics k) : U.isArrayOf cell ty := by
  obtain ⟨-, k, h1, h2⟩ := h 0 (fun _ => .null)
  exact ⟨hv, k, by rw [e]; exact h1, h2⟩
theorem xR.av {g : xG} {h : xH} {H : Heap} {q : Nat} (hR : xR g h H) (ht : (xT h q).1 = 103) : H[q]? = some (arrV (g.2.1 3) (xT h q).2 (fun j => va_rf (xP h q j))) := by
  have := hR.2.1 q (by omega)
  unfold xat at this
  rwa [if_neg (by omega), if_pos ht] at this
section Heap
variable {g : xG} {l : Launch} {M : xM} {pc : Nat} {lv : List (Nat × Value)} {st : List Value} {h : xH} {Q : Option Value → xH → Prop}
theorem x_getV {ci k idx q : Nat} {v : Value} (hd : decode M.2.1 pc = .ok (.getfield idx, 3)) (hw : Cond.fieldLink M.1.cls idx (xTT ci k).1 (xTT ci k).2.1 (xTT ci k).2.2.1 ∈ xW) (hc : ci < 12) (hk : k < xN ci) (ht : (xT h q).1 = ci) (hv : xval ci k (xI h q k) (xP h q k) = v) (kk : aw g l M (pc + 3) lv (v :: st) h Q) : aw g l M pc lv (.ref q :: st) h Q := by
  refine aw_go (fun p e R s m args below meth c QQ H locs cells slots ls C hR hS hl kk => ?_) kk
  obtain ⟨cell, q1, q2, q3, q4⟩ := hR.ob hc ht
  obtain ⟨hx, hb, hml, hown, hts, -, -, -, hK, -⟩ := C
  obtain ⟨hSl, hfc, kC, hkC, hkind⟩ := hK.1.1 ci _ (xcl_of hc)
  obtain ⟨cf, kf, fi, f, hi, hsl⟩ := hSl k hk
  refine W.getf hx hb hown (hts _ hw) hi (u_facts hfc hkC (u_lays hts (xin hc) hk) hi).1 q1 (by rw [q3]; exact fun h => by cases h) (v := v) ?_ rfl rfl hd (kk ls hl)
  rw [hsl, q4 k hk]
  exact congrArg some hv
theorem x_getI {ci k idx q : Nat} (hd : decode M.2.1 pc = .ok (.getfield idx, 3)) (hw : Cond.fieldLink M.1.cls idx (xTT ci k).1 (xTT ci k).2.1 (xTT ci k).2.2.1 ∈ xW) (hc : ci < 12) (hk : k < xN ci) (hr : xRf (xty ci k) = false) (ht : (xT h q).1 = ci) (kk : aw g l M (pc + 3) lv (.int (xI h q k) :: st) h Q) : aw g l M pc lv (.ref q :: st) h Q :=
  x_getV hd hw hc hk ht (by unfold xval; rw [hr]; rfl) kk
theorem x_getP {ci k idx q a : Nat} (hd : decode M.2.1 pc = .ok (.getfield idx, 3)) (hw : Cond.fieldLink M.1.cls idx (xTT ci k).1 (xTT ci k).2.1 (xTT ci k).2.2.1 ∈ xW) (hc : ci < 12) (hk : k < xN ci) (hr : xRf (xty ci k) = true) (ht : (xT h q).1 = ci) (hp : xP h q k = some a) (kk : aw g l M (pc + 3) lv (.ref a :: st) h Q) : aw g l M pc lv (.ref q :: st) h Q :=
  x_getV hd hw hc hk ht (by unfold xval; rw [hr, hp]; rfl) kk
theorem x_putV {ci k idx q : Nat} {v : Value} {h2 : xH} (hd : decode M.2.1 pc = .ok (.putfield idx, 3)) (hw : Cond.fieldLink M.1.cls idx (xTT ci k).1 (xTT ci k).2.1 (xTT ci k).2.2.1 ∈ xW) (hc : ci < 12) (hk : k < xN ci) (hf : (xTT ci k).2.2.2 = false ∨ ((xTT ci k).2.2.2 = true ∧ M.1.name = "<init>" ∧ (xTT ci k).1 = M.1.cls)) (hn : narrow (xty ci k) v = v) (hfit : fits (xty ci k) v = true) (ht : (xT h q).1 = ci)
    (e1 : h2.1 = h.1) (e2 : h2.2.1 = h.2.1) (eT : xT h2 = xT h) (eo : ∀ a, a ≠ q → xI h2 a = xI h a ∧ xP h2 a = xP h a) (eq : ∀ j, updV (fun k => xval ci k (xI h q k) (xP h q k)) k v j = xval ci j (xI h2 q j) (xP h2 q j)) (kk : aw g l M (pc + 3) lv st h2 Q) : aw g l M pc lv (v :: .ref q :: st) h Q := by
  refine aw_wr e1 e2 (fun p e R s m args below meth c QQ H locs cells slots ls C hR hS hl kk => ?_) kk
  obtain ⟨cell, q1, q2, q3, q4⟩ := hR.ob hc ht
  obtain ⟨hx, hb, hml, hown, hts, -, -, hnm, hK, -⟩ := C
  have hap := va_apart (own := M.1.cls) hts (xin hc) (xty ci) (xty_ok hc) (xnm_ok hc) hK.1 (xcl_of hc)
  obtain ⟨hSl, hfc, kC, hkC, hkind⟩ := hK.1.1 ci _ (xcl_of hc)
  obtain ⟨cf, kf, fi, f, hi, hsl⟩ := hSl k hk
  have hst := (u_facts hfc hkC (u_lays hts (xin hc) hk) hi).1
  have hlay := hts _ (xin hc _ (u_in_lay hk))
  unfold u_lay at hlay
  have fin : ∀ H' : Heap, H'[q]? = some (cell.setSlot f.slot v) → H'.size = H.size → (∀ a : Nat, a ≠ q → H'[a]? = H[a]?) → W p l e R s m args below meth c H' (locs ++ [⟨q, f.slot⟩]) cells slots QQ (F0 m (pc + 3) ls st) := by
    intro H' g1 g2 g3
    refine kk ls H' _ hl (hR.wr e1 eT eo g2 g3 ?_) (hS.put g2 g3 (hR.lo (by omega)))
    unfold xat
    rw [eT, ht, if_pos hc]
    rw [hsl] at g1
    exact t_OB.to ⟨_, g1, q2, q3, t_set q4 hap hk v⟩ (fun j _ => eq j)
  rcases hf with hf | ⟨hf, hin, hdecl⟩
  · rw [if_neg (by rw [hf]; decide)] at hlay
    have h6 := u_store hfc hkC hkind hlay hi (xty_ok hc k hk) hn hfit
    exact W.putK hx hb (f := f) ⟨hown, hts _ hw, ⟨_, _, _, hi⟩, hst⟩ (by rw [q2]; exact h6) q1 q3 (by rw [hsl]; exact k2_hasslot (q4 k hk)) rfl rfl hd fin
  · rw [if_pos hf] at hlay
    have hcf : m.cls = cf := by
      obtain ⟨_, _, c', _, _, _, -, -, hf', -, -, -, hown2, -⟩ := Cond.laysFinal_spec hlay
      have e1 : c' = cf := by have := hi.symm.trans hf'; simp at this; exact this.1.symm
      rw [hdecl] at hown2
      rw [← e1]; exact Option.some.inj (hown.symm.trans hown2)
    have h6 := u_fits hfc hkC hkind (Or.inr hlay) hi (xty_ok hc k hk) hn hfit
    exact W.putFinK hx hb hown (hts _ hw) hi hst hcf (hnm.trans hin) (by rw [q2]; exact h6) q1 q3 (by rw [hsl]; exact k2_hasslot (q4 k hk)) rfl rfl hd fin
theorem x_putI {ci k idx q : Nat} {x : Int32} (hd : decode M.2.1 pc = .ok (.putfield idx, 3)) (hw : Cond.fieldLink M.1.cls idx (xTT ci k).1 (xTT ci k).2.1 (xTT ci k).2.2.1 ∈ xW) (hc : ci < 12) (hk : k < xN ci) (hf : (xTT ci k).2.2.2 = false ∨ ((xTT ci k).2.2.2 = true ∧ M.1.name = "<init>" ∧ (xTT ci k).1 = M.1.cls)) (hr : xRf (xty ci k) = false) (hn : narrow (xty ci k) (.int x) = .int x) (hfit : fits (xty ci k) (.int x) = true) (ht : (xT h q).1 = ci) (kk : aw g l M (pc + 3) lv st (xsI h q k x) Q) : aw g l M pc lv (.int x :: .ref q :: st) h Q := by
  refine x_putV (h2 := xsI h q k x) hd hw hc hk hf hn hfit ht rfl rfl rfl xsI_o (fun j => ?_) kk
  rw [xsI_q]
  unfold updV upd
  by_cases hj : j = k
  · subst hj
    rw [if_pos rfl, if_pos rfl]
    unfold xval
    rw [hr]; rfl
  · rw [if_neg hj, if_neg hj]
    rfl
theorem x_putP {ci k idx q a : Nat} (hd : decode M.2.1 pc = .ok (.putfield idx, 3)) (hw : Cond.fieldLink M.1.cls idx (xTT ci k).1 (xTT ci k).2.1 (xTT ci k).2.2.1 ∈ xW) (hc : ci < 12) (hk : k < xN ci) (hf : (xTT ci k).2.2.2 = false ∨ ((xTT ci k).2.2.2 = true ∧ M.1.name = "<init>" ∧ (xTT ci k).1 = M.1.cls)) (hr : xRf (xty ci k) = true) (ht : (xT h q).1 = ci) (kk : aw g l M (pc + 3) lv st (xsP h q k (some a)) Q) : aw g l M pc lv (.ref a :: .ref q :: st) h Q := by
  have hn : narrow (xty ci k) (.ref a) = .ref a := by revert hr; cases xty ci k <;> intro hr <;> first | rfl | cases hr
  have hfit : fits (xty ci k) (.ref a) = true := by revert hr; cases xty ci k <;> intro hr <;> first | rfl | cases hr
  refine x_putV (h2 := xsP h q k (some a)) hd hw hc hk hf hn hfit ht rfl rfl rfl xsP_o (fun j => ?_) kk
  rw [xsP_q]
  unfold updV va_up
  by_cases hj : j = k
  · subst hj
    rw [if_pos rfl, if_pos rfl]
    unfold xval
    rw [hr]; rfl
  · rw [if_neg hj, if_neg hj]
    rfl
theorem x_iald {q : Nat} {i : Int32} (hd : decode M.2.1 pc = .ok (.iaload, 1)) (ht : (xT h q).1 = 100 ∨ (xT h q).1 = 104) (hi : vp_in i (xT h q).2) (kk : aw g l M (pc + 1) lv (.int (xI h q i.toNatClampNeg) :: st) h Q) : aw g l M pc lv (.int i :: .ref q :: st) h Q := by
  refine aw_go (fun p e R s m args below meth c QQ H locs cells slots ls C hR hS hl kk => ?_) kk
  have hlt : i.toNatClampNeg < (xT h q).2 := Nat.not_le.mp fun z => hi (Or.inr z)
  rcases ht with ht | ht
  case inr =>
    obtain ⟨cell, j, c1, c2, c3, c4, c5, c6⟩ := hR.fx ht
    exact W.iald (v := .int (xI h q i.toNatClampNeg)) C.1 C.2.1 c1 (ArrOfT_cell ((C.2.2.2.2.2.2.2.2.1).2.1.2 j) c2 c3) c4 (by rw [c5]; exact hi) (c6 _ hlt) rfl rfl hd (kk ls hl)
  have hcell : H[q]? = some (arrV (g.2.1 0) (xT h q).2 (fun j => .int (xI h q j))) := hR.ar (Or.inl rfl) ht
  exact W.iald (v := .int (xI h q i.toNatClampNeg)) C.1 C.2.1 hcell ((C.2.2.2.2.2.2.2.2.1).at (t := 0) rfl _ _) (fun z => by cases z) (by show ¬ (i < 0 ∨ (arrV _ _ _).slots.size ≤ _); rw [arrV_size]; exact hi) (by show (arrV _ _ _).slots[_]? = _; rw [arrV_read _ _ hlt]) rfl rfl hd (kk ls hl)
theorem x_bald {q : Nat} {i : Int32} (hd : decode M.2.1 pc = .ok (.baload, 1)) (ht : (xT h q).1 = 101 ∨ (xT h q).1 = 102) (hi : vp_in i (xT h q).2) (kk : aw g l M (pc + 1) lv (.int (xI h q i.toNatClampNeg) :: st) h Q) : aw g l M pc lv (.int i :: .ref q :: st) h Q := by
  refine aw_go (fun p e R s m args below meth c QQ H locs cells slots ls C hR hS hl kk => ?_) kk
  have hlt : i.toNatClampNeg < (xT h q).2 := Nat.not_le.mp fun z => hi (Or.inr z)
  rcases ht with ht | ht
  · exact W.bald (v := .int (xI h q i.toNatClampNeg)) C.1 C.2.1 (hR.ar (Or.inr (Or.inl rfl)) ht) ((C.2.2.2.2.2.2.2.2.1).at (t := 1) rfl _ _) (fun z => by cases z) (by show ¬ (i < 0 ∨ (arrV _ _ _).slots.size ≤ _); rw [arrV_size]; exact hi) (by show (arrV _ _ _).slots[_]? = _; rw [arrV_read _ _ hlt]) rfl rfl hd (kk ls hl)
  · exact W.zald (v := .int (xI h q i.toNatClampNeg)) C.1 C.2.1 (hR.ar (Or.inr (Or.inr rfl)) ht) ((C.2.2.2.2.2.2.2.2.1).at (t := 2) rfl _ _) (fun z => by cases z) (by show ¬ (i < 0 ∨ (arrV _ _ _).slots.size ≤ _); rw [arrV_size]; exact hi) (by show (arrV _ _ _).slots[_]? = _; rw [arrV_read _ _ hlt]) rfl rfl hd (kk ls hl)
theorem x_aald {q a : Nat} {i : Int32} (hd : decode M.2.1 pc = .ok (.aaload, 1)) (ht : (xT h q).1 = 103) (hi : vp_in i (xT h q).2) (hp : xP h q i.toNatClampNeg = some a) (kk : aw g l M (pc + 1) lv (.ref a :: st) h Q) : aw g l M pc lv (.int i :: .ref q :: st) h Q := by
  refine aw_go (fun p e R s m args below meth c QQ H locs cells slots ls C hR hS hl kk => ?_) kk
  have hlt : i.toNatClampNeg < (xT h q).2 := Nat.not_le.mp fun z => hi (Or.inr z)
  exact W.aald (v := .ref a) (ty := .object RX9) C.1 C.2.1 (hR.av ht) ((C.2.2.2.2.2.2.2.2.1).at (t := 3) rfl _ _) rfl (fun z => by cases z) (by show ¬ (i < 0 ∨ (arrV _ _ _).slots.size ≤ _); rw [arrV_size]; exact hi) (by show (arrV _ _ _).slots[_]? = _; rw [arrV_read _ _ hlt, hp]; rfl) rfl rfl hd (kk ls hl)
theorem x_aaldN {q : Nat} {i : Int32} (hd : decode M.2.1 pc = .ok (.aaload, 1)) (ht : (xT h q).1 = 103) (hi : vp_in i (xT h q).2) (hp : xP h q i.toNatClampNeg = none) (kk : aw g l M (pc + 1) lv (.null :: st) h Q) : aw g l M pc lv (.int i :: .ref q :: st) h Q := by
  refine aw_go (fun p e R s m args below meth c QQ H locs cells slots ls C hR hS hl kk => ?_) kk
  have hlt : i.toNatClampNeg < (xT h q).2 := Nat.not_le.mp fun z => hi (Or.inr z)
  exact W.aald (v := .null) (ty := .object RX9) C.1 C.2.1 (hR.av ht) ((C.2.2.2.2.2.2.2.2.1).at (t := 3) rfl _ _) rfl (fun z => by cases z) (by show ¬ (i < 0 ∨ (arrV _ _ _).slots.size ≤ _); rw [arrV_size]; exact hi) (by show (arrV _ _ _).slots[_]? = _; rw [arrV_read _ _ hlt, hp]; rfl) rfl rfl hd (kk ls hl)
theorem x_alen {q : Nat} (hd : decode M.2.1 pc = .ok (.arraylength, 1)) (ht : (xT h q).1 = 100 ∨ (xT h q).1 = 104) (kk : aw g l M (pc + 1) lv (.int (nI (xT h q).2) :: st) h Q) : aw g l M pc lv (.ref q :: st) h Q := by
  refine aw_go (fun p e R s m args below meth c QQ H locs cells slots ls C hR hS hl kk => ?_) kk
  rcases ht with ht | ht
  case inr =>
    obtain ⟨cell, j, c1, c2, c3, c4, c5, c6⟩ := hR.fx ht
    exact W.alen (n := Int32.ofNat (xT h q).2) C.1 C.2.1 c1 (ArrOfT_cell ((C.2.2.2.2.2.2.2.2.1).2.1.2 j) c2 c3) (by rw [c5] <;> rfl) rfl rfl hd (kk ls hl)
  have hcell : H[q]? = some (arrV (g.2.1 0) (xT h q).2 (fun j => .int (xI h q j))) := hR.ar (Or.inl rfl) ht
  exact W.alen (n := Int32.ofNat (xT h q).2) C.1 C.2.1 hcell ((C.2.2.2.2.2.2.2.2.1).at (t := 0) rfl _ _) (by rw [arrV_size] <;> rfl) rfl rfl hd (kk ls hl)
theorem x_blen {q : Nat} (hd : decode M.2.1 pc = .ok (.arraylength, 1)) (ht : (xT h q).1 = 101) (kk : aw g l M (pc + 1) lv (.int (nI (xT h q).2) :: st) h Q) : aw g l M pc lv (.ref q :: st) h Q := by
  refine aw_go (fun p e R s m args below meth c QQ H locs cells slots ls C hR hS hl kk => ?_) kk
  exact W.alen (n := Int32.ofNat (xT h q).2) C.1 C.2.1 (hR.ar (Or.inr (Or.inl rfl)) ht) ((C.2.2.2.2.2.2.2.2.1).at (t := 1) rfl _ _) (by rw [arrV_size] <;> rfl) rfl rfl hd (kk ls hl)
theorem x_arW {q kd : Nat} {i v : Int32} {H H1 : Heap} (hR : xR g h H) (hk : kd = 100 ∨ kd = 101 ∨ kd = 102) (ht : (xT h q).1 = kd) (e : H1[q]? = some ((arrV (g.2.1 (xay kd)) (xT h q).2 (fun j => .int (xI h q j))).setSlot i.toNatClampNeg (.int v))) (z : H1.size = H.size) (oq : ∀ a : Nat, a ≠ q → H1[a]? = H[a]?) : xR g (xsI h q i.toNatClampNeg v) H1 := by
  refine hR.wr rfl rfl xsI_o z oq ?_
  unfold xat
  rw [show xT (xsI h q i.toNatClampNeg v) = xT h from rfl, ht, if_neg (by omega), if_neg (by omega), xrow_n (by omega), e, arrV_store, xsI_q]
  congr 2
  funext j
  unfold updV upd
  by_cases hj : j = i.toNatClampNeg
  · rw [if_pos hj, if_pos hj]
  · rw [if_neg hj, if_neg hj]
theorem x_iast {q : Nat} {i v : Int32} (hd : decode M.2.1 pc = .ok (.iastore, 1)) (ht : (xT h q).1 = 100) (hi : vp_in i (xT h q).2) (kk : aw g l M (pc + 1) lv st (xsI h q i.toNatClampNeg v) Q) : aw g l M pc lv (.int v :: .int i :: .ref q :: st) h Q := by
  refine aw_wr (h2 := xsI h q i.toNatClampNeg v) rfl rfl (fun p e R s m args below meth c QQ H locs cells slots ls C hR hS hl kk => ?_) kk
  exact W.iast C.1 C.2.1 (hR.ar (Or.inl rfl) ht) ((C.2.2.2.2.2.2.2.2.1).at (t := 0) rfl _ _) (fun z => by cases z) (by show ¬ (i < 0 ∨ (arrV _ _ _).slots.size ≤ _); rw [arrV_size]; exact hi) rfl rfl hd fun H1 e z oq => kk ls H1 _ hl (x_arW hR (Or.inl rfl) ht e z oq) (hS.put z oq (hR.lo (by omega)))
theorem x_bast {q : Nat} {i v w : Int32} (hd : decode M.2.1 pc = .ok (.bastore, 1)) (ht : (xT h q).1 = 101) (hi : vp_in i (xT h q).2) (hw : v.toInt8.toInt32 = w) (kk : aw g l M (pc + 1) lv st (xsI h q i.toNatClampNeg w) Q) : aw g l M pc lv (.int v :: .int i :: .ref q :: st) h Q := by
  subst hw
  refine aw_wr (h2 := xsI h q i.toNatClampNeg v.toInt8.toInt32) rfl rfl (fun p e R s m args below meth c QQ H locs cells slots ls C hR hS hl kk => ?_) kk
  exact W.bast C.1 C.2.1 (hR.ar (Or.inr (Or.inl rfl)) ht) ((C.2.2.2.2.2.2.2.2.1).at (t := 1) rfl _ _) (fun z => by cases z) (by show ¬ (i < 0 ∨ (arrV _ _ _).slots.size ≤ _); rw [arrV_size]; exact hi) rfl rfl hd fun H1 e z oq => kk ls H1 _ hl (x_arW hR (Or.inr (Or.inl rfl)) ht e z oq) (hS.put z oq (hR.lo (by omega)))
theorem x_zast {q : Nat} {i v : Int32} (hd : decode M.2.1 pc = .ok (.bastore, 1)) (ht : (xT h q).1 = 102) (hi : vp_in i (xT h q).2) (hw : narrow .boolean (.int v) = .int v) (kk : aw g l M (pc + 1) lv st (xsI h q i.toNatClampNeg v) Q) : aw g l M pc lv (.int v :: .int i :: .ref q :: st) h Q := by
  refine aw_wr (h2 := xsI h q i.toNatClampNeg v) rfl rfl (fun p e R s m args below meth c QQ H locs cells slots ls C hR hS hl kk => ?_) kk
  exact W.zast C.1 C.2.1 (hR.ar (Or.inr (Or.inr rfl)) ht) ((C.2.2.2.2.2.2.2.2.1).at (t := 2) rfl _ _) (fun z => by cases z) (by show ¬ (i < 0 ∨ (arrV _ _ _).slots.size ≤ _); rw [arrV_size]; exact hi) rfl rfl hd fun H1 e z oq => kk ls H1 _ hl (x_arW hR (Or.inr (Or.inr rfl)) ht (by rw [e, hw]) z oq) (hS.put z oq (hR.lo (by omega)))
theorem x_aast {q a : Nat} {i : Int32} (hd : decode M.2.1 pc = .ok (.aastore, 1)) (ht : (xT h q).1 = 103) (ha : (xT h a).1 = 9) (hi : vp_in i (xT h q).2) (kk : aw g l M (pc + 1) lv st (xsP h q i.toNatClampNeg (some a)) Q) : aw g l M pc lv (.ref a :: .int i :: .ref q :: st) h Q := by
  refine aw_wr (h2 := xsP h q i.toNatClampNeg (some a)) rfl rfl (fun p e R s m args below meth c QQ H locs cells slots ls C hR hS hl kk => ?_) kk
  have hlt : i.toNatClampNeg < (xT h q).2 := Nat.not_le.mp fun z => hi (Or.inr z)
  have h0 : ¬ i < 0 := fun z => hi (Or.inl z)
  obtain ⟨cellV, g1, g2, g3, -⟩ := hR.ob (ci := 9) (by omega) ha
  have hK := C.2.2.2.2.2.2.2.2.1
  have hcls := (hK.1.1 9 _ (xcl_of (by omega))).2
  obtain ⟨kA, comp, k1, k2, k3, -⟩ := (hK.1.2 3 _ rfl).2
  have hcomp : comp = g.1.1 9 := Option.some.inj (k3.symm.trans hcls.1)
  subst hcomp
  obtain ⟨kC, hkC, -⟩ := hcls.2
  refine W.aast C.1 C.2.1 (hR.av ht) (fun z h => by cases h) (fun h => by cases h) k1 k2 rfl hkC ⟨h0, by show _ < (arrV _ _ _).slots.size; rw [arrV_size]; exact hlt⟩ g1 (fun z h => by rw [g3] at h; cases h) (by rw [g2]; exact hkC) (by rw [g2]; exact va_assign hcls) rfl rfl hd fun H1 e z oq => ?_
  refine kk ls H1 _ hl (hR.wr rfl rfl xsP_o z oq ?_) (hS.put z oq (hR.lo (by omega)))
  unfold xat
  rw [show xT (xsP h q i.toNatClampNeg (some a)) = xT h from rfl, ht, if_neg (by omega), if_pos rfl, e, arrV_store, xsP_q]
  congr 2
  funext j
  unfold updV va_up
  by_cases hj : j = i.toNatClampNeg
  · rw [if_pos hj, if_pos hj]; rfl
  · rw [if_neg hj, if_neg hj]
end Heap
