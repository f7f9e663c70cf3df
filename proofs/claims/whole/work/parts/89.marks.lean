/-! ===== marks of what is endless ===== -/
theorem c4_fin {B : Nat} {z : Vl} : (vFin B z).1 ≠ 4 := by
  by_cases y : vBig B z
  · rw [vFin_1 y]; exact (show (9 : Nat) ≠ 4 by decide)
  · rw [vFin_0 y]; exact (show (0 : Nat) ≠ 4 by decide)
theorem c4_cIf {p : Prop} {a c : Nat × Vl} (h1 : a.1 ≠ 4) (h2 : c.1 ≠ 4) : (cIf p a c).1 ≠ 4 := by
  by_cases y : p
  · rw [cIf_t y]; exact h1
  · rw [cIf_f y]; exact h2
theorem c4_mul {B : Nat} {x y : Vl} : (vMul B x y).1 ≠ 4 := c4_cIf c4_fin (show (8 : Nat) ≠ 4 by decide)
theorem c4_div {B : Nat} {x y : Vl} : (vDiv B x y).1 ≠ 4 := c4_cIf (show (6 : Nat) ≠ 4 by decide) (c4_cIf c4_fin (show (8 : Nat) ≠ 4 by decide))
theorem c4_add {B : Nat} {x y : Vl} {s : Int32} : (vAdd B x y s).1 ≠ 4 := c4_cIf c4_fin (show (7 : Nat) ≠ 4 by decide)
theorem c4_pow {B : Nat} {x : Vl} {k : Nat} {ng : Bool} {n : Int32} : (vPow B x k ng n).1 ≠ 4 := c4_cIf (show (6 : Nat) ≠ 4 by decide) (c4_cIf c4_fin (show (8 : Nat) ≠ 4 by decide))
theorem c4_turn {B : Nat} {x y : Vl} : (vTurn B x y).1 ≠ 4 := c4_cIf c4_div (show (7 : Nat) ≠ 4 by decide)
theorem c4_num {B : Nat} {C : Nat → Nat} {m a : Nat} : (nuV B C m a).1 ≠ 4 := c4_fin
theorem c4_bin {B op : Nat} {x y : Vl} : (bin B op x y).1 ≠ 4 := by
  unfold bin
  split; exact c4_add
  split; exact c4_add
  split; exact c4_mul
  split; exact c4_div
  exact c4_turn
theorem c4_rFin {r : Nat × Vl} {p q : Nat} {V : List Vl} (h : r.1 ≠ 4) : rFin r p V ≠ rBad 4 q := by
  unfold rFin
  split
  · exact fun z => rBad_ne z.symm
  · intro z; exact h (congrArg (fun r : Rs => r.2.1) z)
def stE (E : Nat → Option (Nat × Vl)) : Nat → Option (Nat × Vl) := fun k => match E k with
  | none => none
  | some r => if r.1 = 4 then none else some r
section Marks
variable {B : Nat} {C : Nat → Nat} {m c : Nat} {E : Nat → Option (Nat × Vl)} {mg : Nat → Nat → Option Nat × Option Nat}
theorem stE_n {k : Nat} (h : E k = none) : stE E k = none := by unfold stE; rw [h]
theorem stE_4 {k : Nat} {r : Nat × Vl} (h : E k = some r) (h4 : r.1 = 4) : stE E k = none := by unfold stE; rw [h]; exact if_pos h4
theorem stE_s {k : Nat} {r : Nat × Vl} (h : E k = some r) (h4 : r.1 ≠ 4) : stE E k = some r := by unfold stE; rw [h]; exact if_neg h4
theorem sN_st {pt : Option Nat × Option Nat} {p : Nat} {V : List Vl} (h1 : ∀ i, pt.1 = some i → i < c) (h2 : ∀ i, pt.2 = some i → i < c) : (sN B (stE E) pt p V = sN B E pt p V ∧ ∀ q, sN B E pt p V ≠ rBad 4 q) ∨ (∃ q j, sN B E pt p V = rBad 4 q ∧ j < c ∧ (∃ r, E j = some r ∧ r.1 = 4) ∧ sN B (stE E) pt p V = rNeed j) := by
  have n5 : ∀ q, rBad 5 p ≠ rBad 4 q := fun q z => by have := congrArg (fun r : Rs => r.2.1) z; cases this
  have nd : ∀ j q, rNeed j ≠ rBad 4 q := fun j q z => by have := congrArg (fun r : Rs => r.1) z; cases this
  have nb : ∀ f q, f ≠ 4 → rBad f p ≠ rBad 4 q := fun f q hf z => hf (congrArg (fun r : Rs => r.2.1) z)
  obtain ⟨pk, pt⟩ := pt
  cases pt with
  | none => exact Or.inl ⟨by cases pk <;> rfl, fun q => by cases pk <;> exact n5 q⟩
  | some t =>
    have ht := h2 t rfl
    cases pk with
    | none =>
      cases e : E t with
      | none => exact Or.inl ⟨by rw [sN_a e, sN_a (stE_n e)], fun q => by rw [sN_a e]; exact nd t q⟩
      | some r =>
        by_cases z : r.1 = 4
        · exact Or.inr ⟨p, t, by rw [sN_b e, rFin_1 (by omega), z], ht, ⟨r, e, z⟩, sN_a (stE_4 e z)⟩
        · exact Or.inl ⟨by rw [sN_b e, sN_b (stE_s e z)], fun q => by rw [sN_b e]; exact c4_rFin z⟩
    | some k =>
      have hk := h1 k rfl
      cases e : E k with
      | none => exact Or.inl ⟨by rw [sN_c e, sN_c (stE_n e)], fun q => by rw [sN_c e]; exact nd k q⟩
      | some r =>
        by_cases z : r.1 = 4
        · exact Or.inr ⟨p, k, by rw [sN_d e (by omega), z], hk, ⟨r, e, z⟩, sN_c (stE_4 e z)⟩
        · by_cases z0 : r.1 = 0
          · cases f : E t with
            | none => exact Or.inl ⟨by rw [sN_e e z0 f, sN_e (stE_s e z) z0 (stE_n f)], fun q => by rw [sN_e e z0 f]; exact nd t q⟩
            | some s =>
              by_cases y : s.1 = 4
              · exact Or.inr ⟨p, t, by rw [sN_f e z0 f, if_neg (by omega), y], ht, ⟨s, f, y⟩, sN_e (stE_s e z) z0 (stE_4 f y)⟩
              · refine Or.inl ⟨by rw [sN_f e z0 f, sN_f (stE_s e z) z0 (stE_s f y)], fun q => ?_⟩
                rw [sN_f e z0 f]
                split
                · exact c4_rFin c4_mul
                · exact nb _ q y
          · exact Or.inl ⟨by rw [sN_d e z0, sN_d (stE_s e z) z0], fun q => by rw [sN_d e z0]; exact nb _ q z⟩
theorem stp_st {s : St} {V : List Vl} (hm : mgOk c mg) : (stp B C m (stE E) mg s V = stp B C m E mg s V ∧ ∀ q, stp B C m E mg s V ≠ rBad 4 q) ∨ (∃ q j, stp B C m E mg s V = rBad 4 q ∧ j < c ∧ (∃ r, E j = some r ∧ r.1 = 4) ∧ stp B C m (stE E) mg s V = rNeed j) := by
  by_cases h2 : s.1 = 2
  · have e1 : stp B C m E mg s V = sN B E (mg s.2.1 (tkT C m s.2.1 - s.2.1)) s.2.1 V := if_pos h2
    have e2 : stp B C m (stE E) mg s V = sN B (stE E) (mg s.2.1 (tkT C m s.2.1 - s.2.1)) s.2.1 V := if_pos h2
    rw [e1, e2]
    exact sN_st (hm _ _).1 (hm _ _).2
  · have n0 : ∀ q, rBad 0 0 ≠ rBad 4 q := fun q z => by have := congrArg (fun r : Rs => r.2.1) z; cases this
    have no : ∀ V q, rOk V ≠ rBad 4 q := fun V q z => rBad_ne z.symm
    refine Or.inl ⟨?_, fun q => ?_⟩
    · unfold stp; rw [if_neg h2, if_neg h2]
    · unfold stp
      rw [if_neg h2]
      split
      · exact c4_rFin c4_num
      split
      · cases V with
        | nil => exact n0 q
        | cons x V => exact c4_rFin c4_pow
      split
      · cases V with
        | nil => exact n0 q
        | cons x V => exact no _ q
      · cases V with
        | nil => exact n0 q
        | cons y V =>
          cases V with
          | nil => exact n0 q
          | cons x V => exact c4_rFin c4_bin
theorem exe_st (hm : mgOk c mg) : ∀ {L : List St} {V : List Vl}, (exe B C m (stE E) mg L V = exe B C m E mg L V ∧ ∀ q, exe B C m E mg L V ≠ rBad 4 q) ∨ (∃ q j, exe B C m E mg L V = rBad 4 q ∧ j < c ∧ (∃ r, E j = some r ∧ r.1 = 4) ∧ exe B C m (stE E) mg L V = rNeed j)
  | [], V => Or.inl ⟨rfl, fun q z => rBad_ne z.symm⟩
  | s :: L, V => by
    rcases stp_st (B := B) (C := C) (m := m) (E := E) (s := s) (V := V) hm with ⟨e, h⟩ | ⟨q, j, h1, h2, h3, h4⟩
    · rw [exe_s, exe_s, e]
      by_cases z : (stp B C m E mg s V).1 = 0
      · rw [if_pos z, if_pos z]; exact exe_st hm
      · rw [if_neg z, if_neg z]; exact Or.inl ⟨rfl, h⟩
    · exact Or.inr ⟨q, j, exe_bad h1, h2, h3, exe_need h4⟩
end Marks
/-- how many are new -/
def nw (E : Nat → Option (Nat × Vl)) : Nat → Nat
  | 0 => 0
  | c + 1 => nw E c + (if E c = none then 1 else 0)
theorem nw_le (E : Nat → Option (Nat × Vl)) : ∀ c, nw E c ≤ c
  | 0 => Nat.le_refl _
  | c + 1 => by have := nw_le E c; show nw E c + _ ≤ c + 1; split <;> omega
theorem nw_same {E : Nat → Option (Nat × Vl)} {k : Nat} {r : Option (Nat × Vl)} : ∀ {c}, c ≤ k → nw (va_up E k r) c = nw E c
  | 0, _ => rfl
  | c + 1, h => by
    show nw (va_up E k r) c + (if va_up E k r c = none then 1 else 0) = nw E c + _
    rw [nw_same (by omega), vup_n (by omega)]
theorem nw_enter {E : Nat → Option (Nat × Vl)} {k : Nat} {r : Nat × Vl} (h : E k = none) : ∀ {c}, k < c → nw (va_up E k (some r)) c + 1 = nw E c
  | 0, hk => by omega
  | c + 1, hk => by
    show nw (va_up E k (some r)) c + (if va_up E k (some r) c = none then 1 else 0) + 1 = nw E c + (if E c = none then 1 else 0)
    rcases Nat.eq_or_lt_of_le (Nat.le_of_lt_succ hk) with e | e
    · subst e
      rw [vup_s, nw_same (Nat.le_refl _), if_pos h, if_neg (fun z => by cases z)]
    · rw [vup_n (by omega)]
      have := nw_enter h (r := r) e
      omega
theorem nw_leave {E : Nat → Option (Nat × Vl)} {k : Nat} {r r' : Nat × Vl} (h : E k = some r') : ∀ {c}, nw (va_up E k (some r)) c = nw E c
  | 0 => rfl
  | c + 1 => by
    show nw (va_up E k (some r)) c + (if va_up E k (some r) c = none then 1 else 0) = nw E c + (if E c = none then 1 else 0)
    rw [nw_leave h]
    by_cases e : c = k
    · subst e; rw [vup_s, h, if_neg (fun z => by cases z), if_neg (fun z => by cases z)]
    · rw [vup_n e]
theorem nw_pos {E : Nat → Option (Nat × Vl)} {k c : Nat} (hk : k < c) (h : E k = none) : 0 < nw E c := by
  have := nw_enter h (r := (0, v00)) hk
  omega
