/-! ===== a heap with its ints apart ===== -/
def xJ (h : xH) (J : Nat → Nat → Int32) : xH := (h.1, h.2.1, h.2.2.1, J, h.2.2.2.2)
theorem xJ_id (h : xH) : xJ h (xI h) = h := rfl
section JRules
variable {g : xG} {l : Launch} {M : xM} {pc : Nat} {lv : List (Nat × Value)} {st : List Value} {h : xH} {J : Nat → Nat → Int32} {Q : Option Value → xH → Prop}
theorem j_iald {q n c kd : Nat} (hd : decode M.2.1 pc = .ok (.iaload, 1)) (ht : xT h q = (kd, c)) (hk : kd = 100 ∨ kd = 104) (hn : n < c) (hc : c < 2 ^ 31) (k : aw g l M (pc + 1) lv (.int (J q n) :: st) (xJ h J) Q) : aw g l M pc lv (.int (nI n) :: .ref q :: st) (xJ h J) Q := by
  refine x_iald hd (by show (xT h q).1 = 100 ∨ (xT h q).1 = 104; rw [ht]; exact hk) (by show vp_in _ (xT h q).2; rw [ht]; exact vp_in_nI hn hc) ?_
  rw [nI_clamp (Nat.lt_trans hn hc)]
  exact k
theorem j_bald {q n c : Nat} (hd : decode M.2.1 pc = .ok (.baload, 1)) (ht : xT h q = (101, c)) (hn : n < c) (hc : c < 2 ^ 31) (k : aw g l M (pc + 1) lv (.int (J q n) :: st) (xJ h J) Q) : aw g l M pc lv (.int (nI n) :: .ref q :: st) (xJ h J) Q := by
  refine x_bald hd (by show (xT h q).1 = 101 ∨ (xT h q).1 = 102; rw [ht]; exact Or.inl rfl) (by show vp_in _ (xT h q).2; rw [ht]; exact vp_in_nI hn hc) ?_
  rw [nI_clamp (Nat.lt_trans hn hc)]
  exact k
theorem j_iast {q n c : Nat} {x : Int32} (hd : decode M.2.1 pc = .ok (.iastore, 1)) (ht : xT h q = (100, c)) (hn : n < c) (hc : c < 2 ^ 31) (k : aw g l M (pc + 1) lv st (xJ h (xup2 J q n x)) Q) : aw g l M pc lv (.int x :: .int (nI n) :: .ref q :: st) (xJ h J) Q := by
  refine x_iast hd (by show (xT h q).1 = 100; rw [ht]) (by show vp_in _ (xT h q).2; rw [ht]; exact vp_in_nI hn hc) ?_
  rw [nI_clamp (Nat.lt_trans hn hc)]
  exact k
theorem j_bast {q n c : Nat} {x : Int32} (hd : decode M.2.1 pc = .ok (.bastore, 1)) (ht : xT h q = (101, c)) (hn : n < c) (hc : c < 2 ^ 31) (k : aw g l M (pc + 1) lv st (xJ h (xup2 J q n x.toInt8.toInt32)) Q) : aw g l M pc lv (.int x :: .int (nI n) :: .ref q :: st) (xJ h J) Q := by
  refine x_bast hd (by show (xT h q).1 = 101; rw [ht]) (by show vp_in _ (xT h q).2; rw [ht]; exact vp_in_nI hn hc) rfl ?_
  rw [nI_clamp (Nat.lt_trans hn hc)]
  exact k
theorem j_alen {q c : Nat} (hd : decode M.2.1 pc = .ok (.arraylength, 1)) (ht : xT h q = (100, c)) (k : aw g l M (pc + 1) lv (.int (nI c) :: st) (xJ h J) Q) : aw g l M pc lv (.ref q :: st) (xJ h J) Q := by
  refine x_alen hd (Or.inl (by show (xT h q).1 = 100; rw [ht])) ?_
  show aw g l M (pc + 1) lv (.int (nI (xT h q).2) :: st) (xJ h J) Q
  rw [ht]
  exact k
theorem j_blen {q c : Nat} (hd : decode M.2.1 pc = .ok (.arraylength, 1)) (ht : xT h q = (101, c)) (k : aw g l M (pc + 1) lv (.int (nI c) :: st) (xJ h J) Q) : aw g l M pc lv (.ref q :: st) (xJ h J) Q := by
  refine x_blen hd (by show (xT h q).1 = 101; rw [ht]) ?_
  show aw g l M (pc + 1) lv (.int (nI (xT h q).2) :: st) (xJ h J) Q
  rw [ht]
  exact k
end JRules
