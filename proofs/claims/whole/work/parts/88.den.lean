/-! ===== what DEFINITIONS stand for ===== -/
section Den1
variable {B : Nat} {C : Nat → Nat} {m c : Nat} {E E' : Nat → Option (Nat × Vl)} {mg : Nat → Nat → Option Nat × Option Nat}
/-- what is known in the one is so in the other -/
def LeE (c : Nat) (E E' : Nat → Option (Nat × Vl)) : Prop := ∀ k, k < c → ∀ r, E k = some r → E' k = some r
def CsE (c : Nat) (E E' : Nat → Option (Nat × Vl)) : Prop := ∀ k, k < c → ∀ r r', E k = some r → E' k = some r' → r = r'
def mgOk (c : Nat) (mg : Nat → Nat → Option Nat × Option Nat) : Prop := ∀ a n, (∀ i, (mg a n).1 = some i → i < c) ∧ (∀ i, (mg a n).2 = some i → i < c)
theorem rNeed_ne {j : Nat} {V : List Vl} : rNeed j ≠ rOk V := fun z => by have := congrArg (fun r : Rs => r.1) z; cases this
theorem rBad_ne {f p : Nat} {V : List Vl} : rBad f p ≠ rOk V := fun z => by have := congrArg (fun r : Rs => r.1) z; cases this
theorem rFin_2 {r : Nat × Vl} {p : Nat} {V : List Vl} : (rFin r p V).1 ≠ 2 := by
  unfold rFin; split
  · exact (show (0 : Nat) ≠ 2 by decide)
  · exact (show (1 : Nat) ≠ 2 by decide)
/-- a NAME in two books of knowledge -/
theorem sN_two {pt : Option Nat × Option Nat} {p : Nat} {V : List Vl} (h1 : ∀ i, pt.1 = some i → i < c) (h2 : ∀ i, pt.2 = some i → i < c) (hc : CsE c E E') : sN B E' pt p V = sN B E pt p V ∨ (∃ j, j < c ∧ E' j = none ∧ sN B E' pt p V = rNeed j ∧ E j ≠ none) ∨ ∃ j, j < c ∧ E j = none ∧ sN B E pt p V = rNeed j ∧ (E' j = none → ∃ j', j' < c ∧ E' j' = none ∧ sN B E' pt p V = rNeed j') := by
  obtain ⟨pk, pt⟩ := pt
  cases pt with
  | none => exact Or.inl (by cases pk <;> rfl)
  | some t =>
    have ht := h2 t rfl
    cases pk with
    | none =>
      cases e : E t with
      | none => exact Or.inr (Or.inr ⟨t, ht, e, sN_a e, fun e' => ⟨t, ht, e', sN_a e'⟩⟩)
      | some r =>
        cases e' : E' t with
        | none => exact Or.inr (Or.inl ⟨t, ht, e', sN_a e', by rw [e]; intro z; cases z⟩)
        | some r' => have := hc t ht r r' e e'; subst this; exact Or.inl (by rw [sN_b e, sN_b e'])
    | some k =>
      have hk := h1 k rfl
      cases e : E k with
      | none => exact Or.inr (Or.inr ⟨k, hk, e, sN_c e, fun e' => ⟨k, hk, e', sN_c e'⟩⟩)
      | some r =>
        cases e' : E' k with
        | none =>
          by_cases hh : E k = none
          · rw [e] at hh; cases hh
          · exact Or.inr (Or.inl ⟨k, hk, e', sN_c e', hh⟩)
        | some r' =>
          have := hc k hk r r' e e'
          subst this
          by_cases z0 : r.1 = 0
          · cases f : E t with
            | none => exact Or.inr (Or.inr ⟨t, ht, f, sN_e e z0 f, fun f' => ⟨t, ht, f', sN_e e' z0 f'⟩⟩)
            | some s =>
              cases f' : E' t with
              | none => exact Or.inr (Or.inl ⟨t, ht, f', sN_e e' z0 f', by rw [f]; intro z; cases z⟩)
              | some s' => have := hc t ht s s' f f'; subst this; exact Or.inl (by rw [sN_f e z0 f, sN_f e' z0 f'])
          · exact Or.inl (by rw [sN_d e z0, sN_d e' z0])
theorem stp_two {s : St} {V : List Vl} (hm : mgOk c mg) (hc : CsE c E E') : stp B C m E' mg s V = stp B C m E mg s V ∨ (∃ j, j < c ∧ E' j = none ∧ stp B C m E' mg s V = rNeed j ∧ E j ≠ none) ∨ ∃ j, j < c ∧ E j = none ∧ stp B C m E mg s V = rNeed j ∧ (E' j = none → ∃ j', j' < c ∧ E' j' = none ∧ stp B C m E' mg s V = rNeed j') := by
  by_cases h2 : s.1 = 2
  · have e1 : stp B C m E mg s V = sN B E (mg s.2.1 (tkT C m s.2.1 - s.2.1)) s.2.1 V := if_pos h2
    have e2 : stp B C m E' mg s V = sN B E' (mg s.2.1 (tkT C m s.2.1 - s.2.1)) s.2.1 V := if_pos h2
    rw [e1, e2]
    exact sN_two (hm _ _).1 (hm _ _).2 hc
  · refine Or.inl ?_
    unfold stp
    rw [if_neg h2, if_neg h2]
theorem exe_s {s : St} {L : List St} {V : List Vl} : exe B C m E mg (s :: L) V = if (stp B C m E mg s V).1 = 0 then exe B C m E mg L (stp B C m E mg s V).2.2.2 else stp B C m E mg s V := rfl
/-- two books of knowledge that don't disagree -/
theorem exe_two (hm : mgOk c mg) (hc : CsE c E E') : ∀ {L : List St} {V : List Vl}, exe B C m E' mg L V = exe B C m E mg L V ∨ (∃ j, j < c ∧ E' j = none ∧ exe B C m E' mg L V = rNeed j ∧ E j ≠ none) ∨ ∃ j, j < c ∧ E j = none ∧ exe B C m E mg L V = rNeed j ∧ (E' j = none → ∃ j', j' < c ∧ E' j' = none ∧ exe B C m E' mg L V = rNeed j')
  | [], V => Or.inl rfl
  | s :: L, V => by
    rcases stp_two (B := B) (C := C) (m := m) (s := s) (V := V) hm hc with e | ⟨j, h1, h2, h3, h4⟩ | ⟨j, h1, h2, h3, h4⟩
    · rw [exe_s, exe_s, e]
      by_cases z : (stp B C m E mg s V).1 = 0
      · rw [if_pos z, if_pos z]; exact exe_two hm hc
      · rw [if_neg z, if_neg z]; exact Or.inl rfl
    · exact Or.inr (Or.inl ⟨j, h1, h2, exe_need h3, h4⟩)
    · refine Or.inr (Or.inr ⟨j, h1, h2, exe_need h3, fun z => ?_⟩)
      obtain ⟨j', a, b, d⟩ := h4 z
      exact ⟨j', a, b, exe_need d⟩
theorem exe_mono {L : List St} {V : List Vl} (hm : mgOk c mg) (hl : LeE c E E') (h : (exe B C m E mg L V).1 ≠ 2) : exe B C m E' mg L V = exe B C m E mg L V := by
  have hc : CsE c E E' := fun k hk r r' e e' => by have := hl k hk r e; rw [this] at e'; exact Option.some.inj e'
  rcases exe_two (B := B) (C := C) (m := m) (L := L) (V := V) hm hc with e | ⟨j, h1, h2, h3, h4⟩ | ⟨j, h1, h2, h3, h4⟩
  · exact e
  · exfalso
    cases e : E j with
    | none => exact h4 e
    | some r => rw [hl j h1 r e] at h2; cases h2
  · rw [h3] at h; exact absurd rfl h
theorem exe_needs {L : List St} {V : List Vl} {j : Nat} (hm : mgOk c mg) (hc : CsE c E E') (h : exe B C m E mg L V = rNeed j) (hj : E' j = none) : (exe B C m E' mg L V).1 = 2 := by
  rcases exe_two (B := B) (C := C) (m := m) (L := L) (V := V) hm hc with e | ⟨i, h1, h2, h3, h4⟩ | ⟨i, h1, h2, h3, h4⟩
  · rw [e, h]; rfl
  · rw [h3]; rfl
  · rw [h] at h3
    have : j = i := congrArg (fun r : Rs => r.2.1) h3
    subst this
    obtain ⟨j', a, b, d⟩ := h4 hj
    rw [d]; rfl
end Den1
def rO (r : Rs) : Option (Nat × Vl) := if r.1 = 0 then (match r.2.2.2 with
  | [v] => some (0, v)
  | _ => none) else if r.1 = 1 then some (r.2.1, v00) else none
theorem rO_2 {r : Rs} (h : r.1 = 2) : rO r = none := by unfold rO; rw [if_neg (by omega), if_neg (by omega)]
/-- the DEFINITIONS: sort, VALUE of a base, steps, text -/
noncomputable def dn (B c : Nat) (so : Nat → Nat) (bv : Nat → Vl) (Lk : Nat → List St) (Ck : Nat → Nat → Nat) (mk : Nat → Nat) (mg : Nat → Nat → Nat → Option Nat × Option Nat) : Nat → Nat → Option (Nat × Vl)
  | 0 => fun k => if so k = 0 then some (0, bv k) else none
  | f + 1 => fun k => if so k = 0 then some (0, bv k) else rO (exe B (Ck k) (mk k) (dn B c so bv Lk Ck mk mg f) (mg k) (Lk k) [])
section Den2
variable {B c : Nat} {so : Nat → Nat} {bv : Nat → Vl} {Lk : Nat → List St} {Ck : Nat → Nat → Nat} {mk : Nat → Nat} {mg : Nat → Nat → Nat → Option Nat × Option Nat}
theorem dn_le (hm : ∀ k, mgOk c (mg k)) : ∀ f, LeE c (dn B c so bv Lk Ck mk mg f) (dn B c so bv Lk Ck mk mg (f + 1))
  | 0 => fun k hk r e => by
    have e' : (if so k = 0 then some (0, bv k) else none) = some r := e
    show (if so k = 0 then some (0, bv k) else rO _) = some r
    by_cases z : so k = 0
    · rw [if_pos z] at e' ⊢; exact e'
    · rw [if_neg z] at e'; cases e'
  | f + 1 => fun k hk r e => by
    have e' : (if so k = 0 then some (0, bv k) else rO (exe B (Ck k) (mk k) (dn B c so bv Lk Ck mk mg f) (mg k) (Lk k) [])) = some r := e
    show (if so k = 0 then some (0, bv k) else rO (exe B (Ck k) (mk k) (dn B c so bv Lk Ck mk mg (f + 1)) (mg k) (Lk k) [])) = some r
    by_cases z : so k = 0
    · rw [if_pos z] at e' ⊢; exact e'
    · rw [if_neg z] at e' ⊢
      rw [exe_mono (hm k) (dn_le hm f) (fun h2 => by rw [rO_2 h2] at e'; cases e')]
      exact e'
theorem dn_up (hm : ∀ k, mgOk c (mg k)) {k : Nat} (hk : k < c) {r : Nat × Vl} : ∀ {d f : Nat}, dn B c so bv Lk Ck mk mg f k = some r → dn B c so bv Lk Ck mk mg (f + d) k = some r
  | 0, f, h => h
  | d + 1, f, h => dn_le hm (f + d) k hk r (dn_up hm hk h)
theorem dn_un (hm : ∀ k, mgOk c (mg k)) {k f f' : Nat} (hk : k < c) {r r' : Nat × Vl} (h : dn B c so bv Lk Ck mk mg f k = some r) (h' : dn B c so bv Lk Ck mk mg f' k = some r') : r = r' := by
  have a := dn_up hm hk (d := f') h
  have b := dn_up hm hk (d := f) h'
  rw [Nat.add_comm] at b
  rw [a] at b
  exact Option.some.inj b
/-- only what is so is known -/
def TrE (B c : Nat) (so : Nat → Nat) (bv : Nat → Vl) (Lk : Nat → List St) (Ck : Nat → Nat → Nat) (mk : Nat → Nat) (mg : Nat → Nat → Nat → Option Nat × Option Nat) (E : Nat → Option (Nat × Vl)) : Prop := ∀ k, k < c → ∀ r, E k = some r → ∃ f, dn B c so bv Lk Ck mk mg f k = some r
def fin (B c : Nat) (so : Nat → Nat) (bv : Nat → Vl) (Lk : Nat → List St) (Ck : Nat → Nat → Nat) (mk : Nat → Nat) (mg : Nat → Nat → Nat → Option Nat × Option Nat) (k : Nat) : Prop := ∃ f r, dn B c so bv Lk Ck mk mg f k = some r
theorem Tr_le (hm : ∀ k, mgOk c (mg k)) {E : Nat → Option (Nat × Vl)} (hT : TrE B c so bv Lk Ck mk mg E) : ∃ F, LeE c E (dn B c so bv Lk Ck mk mg F) := by
  suffices H : ∀ n, n ≤ c → ∃ F, ∀ k, k < n → ∀ r, E k = some r → dn B c so bv Lk Ck mk mg F k = some r from H c (Nat.le_refl _)
  intro n
  induction n with
  | zero => intro _; exact ⟨0, fun k hk => by omega⟩
  | succ n ih =>
    intro hn
    obtain ⟨F, hF⟩ := ih (by omega)
    cases e : E n with
    | none =>
      refine ⟨F, fun k hk r er => ?_⟩
      rcases Nat.eq_or_lt_of_le (Nat.le_of_lt_succ hk) with z | z
      · rw [z, e] at er; cases er
      · exact hF k z r er
    | some s =>
      obtain ⟨f, hf⟩ := hT n (by omega) s e
      refine ⟨F + f, fun k hk r er => ?_⟩
      rcases Nat.eq_or_lt_of_le (Nat.le_of_lt_succ hk) with z | z
      · subst z
        rw [e] at er
        have := Option.some.inj er
        subst this
        have := dn_up hm (by omega) (d := F) hf
        rw [Nat.add_comm] at this
        exact this
      · exact dn_up hm (by omega) (hF k z r er)
theorem Tr_cs (hm : ∀ k, mgOk c (mg k)) {E : Nat → Option (Nat × Vl)} (hT : TrE B c so bv Lk Ck mk mg E) (f : Nat) : CsE c E (dn B c so bv Lk Ck mk mg f) := fun k hk r r' e e' => by
  obtain ⟨f', h'⟩ := hT k hk r e
  exact dn_un hm hk h' e'
/-- one that is done is what it is -/
theorem Tr_done (hm : ∀ k, mgOk c (mg k)) {E : Nat → Option (Nat × Vl)} (hT : TrE B c so bv Lk Ck mk mg E) {k : Nat} (hs : so k ≠ 0) {r : Nat × Vl} (h : rO (exe B (Ck k) (mk k) E (mg k) (Lk k) []) = some r) : ∃ f, dn B c so bv Lk Ck mk mg f k = some r := by
  obtain ⟨F, hF⟩ := Tr_le hm hT
  refine ⟨F + 1, ?_⟩
  show (if so k = 0 then some (0, bv k) else rO (exe B (Ck k) (mk k) (dn B c so bv Lk Ck mk mg F) (mg k) (Lk k) [])) = some r
  rw [if_neg hs, exe_mono (hm k) hF (fun h2 => by rw [rO_2 h2] at h; cases h)]
  exact h
/-- one that needs another one is not known ahead of it -/
theorem Tr_need (hm : ∀ k, mgOk c (mg k)) {E : Nat → Option (Nat × Vl)} (hT : TrE B c so bv Lk Ck mk mg E) {k j : Nat} (hs : so k ≠ 0) (h : exe B (Ck k) (mk k) E (mg k) (Lk k) [] = rNeed j) {f : Nat} {r : Nat × Vl} (hf : dn B c so bv Lk Ck mk mg f k = some r) : ∃ f', f = f' + 1 ∧ dn B c so bv Lk Ck mk mg f' j ≠ none := by
  cases f with
  | zero =>
    have hf' : (if so k = 0 then some (0, bv k) else none) = some r := hf
    rw [if_neg hs] at hf'; cases hf'
  | succ f =>
    refine ⟨f, rfl, fun z => ?_⟩
    have hf' : (if so k = 0 then some (0, bv k) else rO (exe B (Ck k) (mk k) (dn B c so bv Lk Ck mk mg f) (mg k) (Lk k) [])) = some r := hf
    rw [if_neg hs, rO_2 (exe_needs (hm k) (Tr_cs hm hT f) h z)] at hf'
    cases hf'
theorem Tr_nofin (hm : ∀ k, mgOk c (mg k)) {E : Nat → Option (Nat × Vl)} (hT : TrE B c so bv Lk Ck mk mg E) {k j : Nat} (hs : so k ≠ 0) (h : exe B (Ck k) (mk k) E (mg k) (Lk k) [] = rNeed j) (hj : ¬ fin B c so bv Lk Ck mk mg j) : ¬ fin B c so bv Lk Ck mk mg k := fun ⟨f, r, hf⟩ => by
  obtain ⟨f', -, h'⟩ := Tr_need hm hT hs h hf
  cases e : dn B c so bv Lk Ck mk mg f' j with
  | none => exact h' e
  | some r' => exact hj ⟨f', r', e⟩
/-- each needs the one ahead of it in the list -/
def nds (B c : Nat) (so : Nat → Nat) (bv : Nat → Vl) (Lk : Nat → List St) (Ck : Nat → Nat → Nat) (mk : Nat → Nat) (mg : Nat → Nat → Nat → Option Nat × Option Nat) : List Nat → Prop
  | [] => True
  | [_] => True
  | j :: k :: ks => (so k ≠ 0 ∧ ∃ E, TrE B c so bv Lk Ck mk mg E ∧ exe B (Ck k) (mk k) E (mg k) (Lk k) [] = rNeed j) ∧ nds B c so bv Lk Ck mk mg (k :: ks)
theorem nds_down (hm : ∀ k, mgOk c (mg k)) : ∀ {ks : List Nat} {j i : Nat}, nds B c so bv Lk Ck mk mg (j :: ks) → i ∈ ks → ∀ f r, dn B c so bv Lk Ck mk mg f i = some r → ∃ f', f' < f ∧ dn B c so bv Lk Ck mk mg f' j ≠ none
  | [], j, i, _, hi => by cases hi
  | k :: ks, j, i, ⟨⟨h1, E, hT, h2⟩, h3⟩, hi => by
    intro f r hf
    rcases List.mem_cons.mp hi with e | e
    · subst e
      obtain ⟨f', e', h'⟩ := Tr_need hm hT h1 h2 hf
      exact ⟨f', by omega, h'⟩
    · obtain ⟨f', hlt, h'⟩ := nds_down hm h3 e f r hf
      cases e2 : dn B c so bv Lk Ck mk mg f' k with
      | none => exact absurd e2 h'
      | some r' =>
        obtain ⟨f'', e', h''⟩ := Tr_need hm hT h1 h2 e2
        exact ⟨f'', by omega, h''⟩
/-- to come upon one that still waits is endless -/
theorem nds_loop (hm : ∀ k, mgOk c (mg k)) {ks : List Nat} {j i : Nat} {E : Nat → Option (Nat × Vl)} (hn : nds B c so bv Lk Ck mk mg (j :: ks)) (hs : so j ≠ 0) (hT : TrE B c so bv Lk Ck mk mg E) (h : exe B (Ck j) (mk j) E (mg j) (Lk j) [] = rNeed i) (hi : i ∈ j :: ks) : ¬ fin B c so bv Lk Ck mk mg j := by
  rintro ⟨f, r, hf⟩
  induction f using Nat.strongRecOn generalizing r with
  | ind f ih =>
    obtain ⟨f', e', h'⟩ := Tr_need hm hT hs h hf
    cases e2 : dn B c so bv Lk Ck mk mg f' i with
    | none => exact h' e2
    | some r' =>
      rcases List.mem_cons.mp hi with e | e
      · subst e; exact ih f' (by omega) r' e2
      · obtain ⟨f'', hlt, h''⟩ := nds_down hm hn e f' r' e2
        cases e3 : dn B c so bv Lk Ck mk mg f'' j with
        | none => exact h'' e3
        | some r'' => exact ih f'' (by omega) r'' e3
end Den2
