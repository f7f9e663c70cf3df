/-! ===== places of steps; POWERS of BASES that are not there ===== -/
def pls (lo : Nat) (x : Lv) : Prop := (x.1.1 ≠ 0 → lo ≤ x.1.2) ∧ (x.2.1.1 ≠ 0 → lo ≤ x.2.1.2) ∧ (x.2.2.1 ≠ 0 → lo ≤ x.2.2.2)
theorem em_pl {lo : Nat} {e : Nat × Nat} (h : e.1 ≠ 0 → lo ≤ e.2) : ∀ s ∈ em e, lo ≤ s.2.1 := by
  unfold em
  split
  · intro s hs; cases hs
  · rename_i z
    intro s hs
    rw [List.mem_singleton.mp hs]
    exact h z
theorem r1_pl {lo : Nat} {x : Lv} (h : pls lo x) : ∀ s ∈ r1 x, lo ≤ s.2.1 := fun s hs => by
  rcases List.mem_append.mp hs with z | z
  · exact em_pl h.2.2 s z
  · rcases List.mem_append.mp z with y | y
    · exact em_pl h.2.1 s y
    · exact em_pl h.1 s y
theorem r3_pl {lo : Nat} {x : Lv} (h : pls lo x) : ∀ s ∈ r3 x, lo ≤ s.2.1 := fun s hs => by
  rcases List.mem_append.mp hs with z | z
  · exact em_pl h.2.2 s z
  · exact em_pl h.2.1 s z
theorem r4_pl {lo : Nat} {x : Lv} (h : pls lo x) : ∀ s ∈ r4 x, lo ≤ s.2.1 := fun s hs => em_pl h.2.2 s hs
theorem app_pl {lo : Nat} {A L : List St} (h1 : ∀ s ∈ A, lo ≤ s.2.1) (h2 : ∀ s ∈ L, lo ≤ s.2.1) : ∀ s ∈ A ++ L, lo ≤ s.2.1 := fun s hs => (List.mem_append.mp hs).elim (h1 s) (h2 s)
theorem con_pl {lo : Nat} {t : St} {L : List St} (h1 : lo ≤ t.2.1) (h2 : ∀ s ∈ L, lo ≤ s.2.1) : ∀ s ∈ t :: L, lo ≤ s.2.1 := fun s hs => by
  rcases List.mem_cons.mp hs with z | z
  · rw [z]; exact h1
  · exact h2 s z
theorem pls_1 {lo : Nat} {e : Nat × Nat} (h : lo ≤ e.2) : pls lo (e, (0, 0), (0, 0)) := ⟨fun _ => h, fun z => absurd rfl z, fun z => absurd rfl z⟩
theorem pls_0 (lo : Nat) : pls lo Lv0 := ⟨fun z => absurd rfl z, fun z => absurd rfl z, fun z => absurd rfl z⟩
theorem pm_pl {C : Nat → Nat} {m md a e : Nat} {x : Lv} {ys : List Lv} {L : List St} {o : Bool} (pm : PM C m md a x ys L o e) : ∀ lo, o = true → lo ≤ a → pls lo x → (∀ y ∈ ys, pls lo y) → ∀ s ∈ L, lo ≤ s.2.1 := by
  have n1 := fun a => nx_a C m a
  refine pm (fun _ a x ys L o _ => ∀ lo, o = true → lo ≤ a → pls lo x → (∀ y ∈ ys, pls lo y) → ∀ s ∈ L, lo ≤ s.2.1) ⟨?_, ?_, ?_, ?_, ?_, ?_, ?_, ?_, ?_, ?_, ?_, ?_, ?_, ?_, ?_, ?_, ?_, ?_⟩
  · intro a x ys L _ _ lo h; cases h
  · intro a x ys L o e _ _ _ k lo ho h1 h2 h3
    have := n1 a; have := n1 (nx C m a)
    exact k lo ho (by omega) (pls_1 (e := (13, nx C m a)) (by show lo ≤ nx C m a; omega)) (fun y hy => (List.mem_cons.mp hy).elim (fun z => z ▸ h2) (h3 y))
  · intro a x ys L o e _ _ _ k lo ho h1 h2 h3
    have := n1 a
    exact k lo ho (by omega) (pls_0 lo) (fun y hy => (List.mem_cons.mp hy).elim (fun z => z ▸ h2) (h3 y))
  · intro a x ys L o e _ k lo ho h1 h2 h3
    have := n1 a
    exact con_pl h1 (k lo ho (by omega) h2 h3)
  · intro a x ys L o e _ _ k lo ho h1 h2 h3
    have := n1 a
    exact con_pl h1 (k lo ho (by omega) h2 h3)
  · intro a x ys L o e _ _ _ k lo ho h1 h2 h3
    have := n1 a; have := n1 (nx C m a); have := n1 (nx C m (nx C m a))
    exact con_pl h1 (con_pl (show lo ≤ nx C m (nx C m a) by omega) (con_pl (show lo ≤ nx C m a by omega) (k lo ho (by omega) h2 h3)))
  · intro a x ys L _ _ _ lo h; cases h
  · intro a x ys L _ _ _ lo h; cases h
  · intro a x ys L o e _ _ k lo ho h1 h2 h3
    have := pw_a C m a; have := n1 (pw C m a)
    exact con_pl h1 (k lo ho (by omega) h2 h3)
  · intro a x ys L _ _ lo h; cases h
  · intro a x ys L o e _ k lo ho h1 h2 h3
    exact k lo ho h1 h2 h3
  · intro a x y ys L o e _ k lo ho h1 h2 h3
    have := n1 a
    exact app_pl (r1_pl h2) (k lo ho (by omega) (h3 y List.mem_cons_self) (fun z hz => h3 z (List.mem_cons_of_mem _ hz)))
  · intro a x ys L o e _ k lo ho h1 h2 h3
    have := n1 a
    exact app_pl (r1_pl h2) (k lo ho (by omega) (pls_1 (e := (11, a)) h1) h3)
  · intro a x ys L o e _ k lo ho h1 h2 h3
    have := n1 a
    exact app_pl (r1_pl h2) (k lo ho (by omega) (pls_1 (e := (12, a)) h1) h3)
  · intro a x ys L o e _ k lo ho h1 h2 h3
    have := n1 a
    exact app_pl (r3_pl h2) (k lo ho (by omega) ⟨h2.1, fun _ => h1, fun z => absurd rfl z⟩ h3)
  · intro a x ys L o e _ k lo ho h1 h2 h3
    have := n1 a
    exact app_pl (r3_pl h2) (k lo ho (by omega) ⟨h2.1, fun _ => h1, fun z => absurd rfl z⟩ h3)
  · intro a x ys L o e _ k lo ho h1 h2 h3
    exact app_pl (r4_pl h2) (k lo ho h1 ⟨h2.1, h2.2.1, fun _ => h1⟩ h3)
  · intro a x ys _ _ _ _ _ _ _ _ lo ho h1 h2 h3
    exact r1_pl h2
theorem pm0_pl {C : Nat → Nat} {m a e : Nat} {L : List St} (pm : PM0 C m a L true e) : ∀ s ∈ L, a ≤ s.2.1 := by
  have n1 := nx_a C m a
  rcases pm with ⟨-, pm⟩ | ⟨-, pm⟩
  · exact pm_pl pm a rfl (by omega) (pls_1 (e := (13, a)) (Nat.le_refl _)) (fun y hy => by cases hy)
  · exact pm_pl pm a rfl (Nat.le_refl _) (pls_0 a) (fun y hy => by cases hy)
section Place
variable {B : Nat} {C : Nat → Nat} {m c : Nat} {E : Nat → Option (Nat × Vl)} {mg : Nat → Nat → Option Nat × Option Nat}
theorem rBad_p {f p f' p' : Nat} (h : rBad f p = rBad f' p') : f = f' ∧ p = p' := ⟨congrArg (fun r : Rs => r.2.1) h, congrArg (fun r : Rs => r.2.2.1) h⟩
theorem rNeed_b {j f p : Nat} : rNeed j ≠ rBad f p := fun h => absurd (congrArg (fun r : Rs => r.1) h) (show (2 : Nat) ≠ 1 by decide)
theorem rFin_pl {r : Nat × Vl} {p f p' : Nat} {V : List Vl} (h : rFin r p V = rBad f p') : p = p' := by
  by_cases z : r.1 = 0
  · rw [rFin_0 z] at h; exact absurd h.symm rBad_ne
  · rw [rFin_1 z] at h; exact (rBad_p h).2
theorem sN_pl {pt : Option Nat × Option Nat} {p f p' : Nat} {V : List Vl} (h : sN B E pt p V = rBad f p') : p = p' := by
  obtain ⟨pk, t⟩ := pt
  cases t with
  | none => exact (rBad_p (f := 5) (by cases pk <;> exact h)).2
  | some t =>
    cases pk with
    | none =>
      cases e : E t with
      | none => rw [sN_a e] at h; exact absurd h rNeed_b
      | some r => rw [sN_b e] at h; exact rFin_pl h
    | some k =>
      cases e : E k with
      | none => rw [sN_c e] at h; exact absurd h rNeed_b
      | some r =>
        by_cases z : r.1 = 0
        · cases e2 : E t with
          | none => rw [sN_e e z e2] at h; exact absurd h rNeed_b
          | some r' =>
            rw [sN_f e z e2] at h
            split at h
            · exact rFin_pl h
            · exact (rBad_p h).2
        · rw [sN_d e z] at h; exact (rBad_p h).2
theorem stp_pl {s : St} {V : List Vl} {f p : Nat} (h : stp B C m E mg s V = rBad f p) (hf : f ≠ 0) : s.2.1 = p := by
  unfold stp at h
  split at h
  · exact sN_pl h
  split at h
  · exact rFin_pl h
  split at h
  · split at h
    · exact rFin_pl h
    · exact absurd (rBad_p h).1.symm hf
  split at h
  · split at h
    · exact absurd h.symm rBad_ne
    · exact absurd (rBad_p h).1.symm hf
  · split at h
    · exact rFin_pl h
    · exact absurd (rBad_p h).1.symm hf
theorem exe_pl {f p : Nat} (hf : f ≠ 0) : ∀ {L : List St} {V : List Vl}, exe B C m E mg L V = rBad f p → ∃ s ∈ L, s.2.1 = p
  | [], V, h => absurd (show rBad f p = rOk V from h.symm) rBad_ne
  | s :: L, V, h => by
    rw [exe_s] at h
    by_cases z : (stp B C m E mg s V).1 = 0
    · rw [if_pos z] at h
      obtain ⟨t, ht, e⟩ := exe_pl hf h
      exact ⟨t, List.mem_cons_of_mem _ ht, e⟩
    · rw [if_neg z] at h
      exact ⟨s, List.mem_cons_self, stp_pl h hf⟩
/-- no POWERS from n on -/
def pz (n : Nat) (v : Vl) : Prop := ∀ j, n ≤ j → j < 8 → v.2.2.2 j = 0
theorem pz_fin {n : Nat} {z : Vl} (h : pz n z) : pz n (vFin B z).2 := by
  unfold vFin
  by_cases y : vBig B z
  · rw [cIf_t y]; exact h
  · rw [cIf_f y]; exact h
theorem pz_red {n : Nat} {z : Vl} (h : pz n z) : pz n (vRed z) := by
  unfold vRed
  split <;> exact h
theorem pz_mul {n : Nat} {x y : Vl} (hx : pz n x) (hy : pz n y) : pz n (vMul B x y).2 := by
  unfold vMul
  by_cases z : pOk (fun k => x.2.2.2 k + y.2.2.2 k)
  · rw [cIf_t z]; exact pz_fin (pz_red (fun j h1 h2 => by show x.2.2.2 j + y.2.2.2 j = 0; rw [hx j h1 h2, hy j h1 h2]; rfl))
  · rw [cIf_f z]; exact hx
theorem pz_div {n : Nat} {x y : Vl} (hx : pz n x) (hy : pz n y) : pz n (vDiv B x y).2 := by
  unfold vDiv
  by_cases w : y.1 = 0
  · rw [cIf_t w]; exact hx
  rw [cIf_f w]
  by_cases z : pOk (fun k => x.2.2.2 k + -y.2.2.2 k)
  · rw [cIf_t z]; exact pz_fin (pz_red (fun j h1 h2 => by show x.2.2.2 j + -y.2.2.2 j = 0; rw [hx j h1 h2, hy j h1 h2]; rfl))
  · rw [cIf_f z]; exact hx
theorem pz_add {n : Nat} {x y : Vl} {s : Int32} (hx : pz n x) : pz n (vAdd B x y s).2 := by
  unfold vAdd
  by_cases z : pEq x.2.2.2 y.2.2.2
  · rw [cIf_t z]
    refine pz_fin (pz_red ?_)
    unfold vSum
    by_cases w : x.1 = 0 ∨ s = 0 ∨ x.1 = s
    · rw [cIf_t w]; exact hx
    · rw [cIf_f w]
      by_cases v : y.2.1 * x.2.2.1 ≤ x.2.1 * y.2.2.1
      · rw [cIf_t v]; exact hx
      · rw [cIf_f v]; exact hx
  · rw [cIf_f z]; exact hx
theorem pz_pow {n : Nat} {x : Vl} {k : Nat} {ng : Bool} {t : Int32} (hx : pz n x) : pz n (vPow B x k ng t).2 := by
  unfold vPow
  by_cases w : x.1 = 0 ∧ ng = true
  · rw [cIf_t w]; exact hx
  rw [cIf_f w]
  by_cases z : pOk (fun k => x.2.2.2 k * t)
  · rw [cIf_t z]; exact pz_fin (fun j h1 h2 => by show x.2.2.2 j * t = 0; rw [hx j h1 h2]; exact Int32.zero_mul)
  · rw [cIf_f z]; exact hx
theorem pz_bin {n op : Nat} {x y : Vl} (hx : pz n x) (hy : pz n y) : pz n (bin B op x y).2 := by
  unfold bin
  split; exact pz_add hx
  split; exact pz_add hx
  split; exact pz_mul hx hy
  split; exact pz_div hx hy
  unfold vTurn
  by_cases z : pEq x.2.2.2 y.2.2.2
  · rw [cIf_t z]; exact pz_div hx hy
  · rw [cIf_f z]; exact hx
theorem pz_num {n a : Nat} : pz n (nuV B C m a).2 := pz_fin (pz_red (fun _ _ _ => rfl))
def pzs (n : Nat) (V : List Vl) : Prop := ∀ v ∈ V, pz n v
theorem pzs_c {n : Nat} {v : Vl} {V : List Vl} (h1 : pz n v) (h2 : pzs n V) : pzs n (v :: V) := fun w hw => (List.mem_cons.mp hw).elim (fun z => z ▸ h1) (h2 w)
theorem rFin_pz {n : Nat} {r : Nat × Vl} {p : Nat} {V : List Vl} (h1 : pz n r.2) (h2 : pzs n V) : pzs n (rFin r p V).2.2.2 := by
  by_cases z : r.1 = 0
  · rw [rFin_0 z]; exact pzs_c h1 h2
  · rw [rFin_1 z]; intro v hv; cases hv
theorem stp_pz {n : Nat} {s : St} {V : List Vl} (hm : mgOk c mg) (hE : ∀ k, k < c → ∀ r, E k = some r → pz n r.2) (hV : pzs n V) : pzs n (stp B C m E mg s V).2.2.2 := by
  have no : ∀ (a b d : Nat), pzs n ((a, b, d, []) : Rs).2.2.2 := fun a b d v hv => by cases hv
  unfold stp
  split
  · have h1 := (hm s.2.1 (tkT C m s.2.1 - s.2.1)).1
    have h2 := (hm s.2.1 (tkT C m s.2.1 - s.2.1)).2
    generalize mg s.2.1 (tkT C m s.2.1 - s.2.1) = pt at h1 h2
    obtain ⟨pk, t⟩ := pt
    cases t with
    | none => cases pk <;> exact no 1 5 _
    | some t =>
      have ht := h2 t rfl
      cases pk with
      | none =>
        cases e : E t with
        | none => rw [sN_a e]; exact no 2 t 0
        | some r => rw [sN_b e]; exact rFin_pz (hE t ht r e) hV
      | some k =>
        have hk := h1 k rfl
        cases e : E k with
        | none => rw [sN_c e]; exact no 2 k 0
        | some r =>
          by_cases z : r.1 = 0
          · cases e2 : E t with
            | none => rw [sN_e e z e2]; exact no 2 t 0
            | some r' =>
              rw [sN_f e z e2]
              split
              · exact rFin_pz (pz_mul (hE k hk r e) (hE t ht r' e2)) hV
              · exact no 1 _ _
          · rw [sN_d e z]; exact no 1 _ _
  split
  · exact rFin_pz pz_num hV
  split
  · split
    · rename_i x V'
      exact rFin_pz (pz_pow (hV x List.mem_cons_self)) (fun v hv => hV v (List.mem_cons_of_mem _ hv))
    · exact no 1 0 0
  split
  · split
    · rename_i x V'
      exact pzs_c (hV x List.mem_cons_self) (fun v hv => hV v (List.mem_cons_of_mem _ hv))
    · exact no 1 0 0
  · split
    · rename_i y x V'
      exact rFin_pz (pz_bin (hV x (List.mem_cons_of_mem _ List.mem_cons_self)) (hV y List.mem_cons_self)) (fun v hv => hV v (List.mem_cons_of_mem _ (List.mem_cons_of_mem _ hv)))
    · exact no 1 0 0
theorem exe_pz {n : Nat} (hm : mgOk c mg) (hE : ∀ k, k < c → ∀ r, E k = some r → pz n r.2) : ∀ {L : List St} {V : List Vl}, pzs n V → pzs n (exe B C m E mg L V).2.2.2
  | [], V, h => h
  | s :: L, V, h => by
    rw [exe_s]
    split
    · exact exe_pz hm hE (stp_pz hm hE h)
    · exact stp_pz hm hE h
end Place
theorem dn_pz {B c n : Nat} {so bn : Nat → Nat} {Lk : Nat → List St} {Ck : Nat → Nat → Nat} {mk : Nat → Nat} {mg : Nat → Nat → Nat → Option Nat × Option Nat} (hm : ∀ k, mgOk c (mg k)) (hb : ∀ k, k < c → so k = 0 → bn k < n) : ∀ f k, k < c → ∀ r, dn B c so (bvO bn) Lk Ck mk mg f k = some r → pz n r.2 := by
  have base : ∀ k, k < c → so k = 0 → pz n (bvO bn k) := fun k hk z j h1 h2 => by
    show va_up (fun _ => (0 : Int32)) (bn k) 1 j = 0
    rw [vup_n (by have := hb k hk z; omega)]
  intro f
  induction f with
  | zero =>
    intro k hk r e
    have e' : (if so k = 0 then some (0, bvO bn k) else none) = some r := e
    split at e'
    · rename_i z
      have := Option.some.inj e'
      rw [← this]; exact base k hk z
    · cases e'
  | succ f ih =>
    intro k hk r e
    have e' : (if so k = 0 then some (0, bvO bn k) else rO (exe B (Ck k) (mk k) (dn B c so (bvO bn) Lk Ck mk mg f) (mg k) (Lk k) [])) = some r := e
    split at e'
    · rename_i z
      have := Option.some.inj e'
      rw [← this]; exact base k hk z
    · have hx := exe_pz (B := B) (C := Ck k) (m := mk k) (n := n) (hm k) ih (L := Lk k) (V := []) (fun v hv => by cases hv)
      unfold rO at e'
      split at e'
      · split at e'
        · rename_i v hv
          have := Option.some.inj e'
          rw [← this]
          exact hx v (by rw [hv]; exact List.mem_singleton.mpr rfl)
        · cases e'
      · split at e'
        · have := Option.some.inj e'
          rw [← this]; intro j _ _; rfl
        · cases e'
