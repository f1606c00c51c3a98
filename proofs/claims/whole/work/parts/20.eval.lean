/-! AN EVALUATOR that never looks at the script: what it computes, the small machine does, whatever the script -/
def am_X0 : Nat × (Nat → Int32) := (0, fun _ => 0)
def am_stepC (i : am_I) (pc : Nat) (L : am_L) (st : List Value) (S : am_S) : Option am_F := match i.1, st with
  | .arraylength, .ref o :: _ => if o = 1000000 then none else am_step am_X0 i pc L st S
  | _, _ => am_step am_X0 i pc L st S
theorem am_ro_same {X : Nat × (Nat → Int32)} {o : Nat} (h : o ≠ 1000000) : am_ro X o = am_ro am_X0 o := by
  unfold am_ro
  rw [if_neg h, if_neg h]
theorem am_aload_same {X : Nat × (Nat → Int32)} {t q0 : Nat} {L : am_L} {st : List Value} {S : am_S} {q : am_F} (h : am_aload t q0 L st S am_X0 = some q) : am_aload t q0 L st S X = some q := by
  unfold am_aload at h ⊢
  split at h
  · rename_i j o r
    by_cases ho : o = 1000000
    · subst ho
      simp [am_ro, am_X0, am_in] at h
    · rw [am_ro_same ho]
      exact h
  · cases h
theorem am_stepC_ok {X : Nat × (Nat → Int32)} {i : am_I} {pc : Nat} {L : am_L} {st : List Value} {S : am_S} {q : am_F} (h : am_stepC i pc L st S = some q) : am_step X i pc L st S = some q := by
  obtain ⟨op, len, a, b, w, cst⟩ := i
  by_cases hop : op = .arraylength
  · subst hop
    unfold am_stepC at h
    dsimp only at h
    split at h
    · rename_i o r he
      split at h
      · cases h
      · rename_i ho
        simp only [am_step, am_alen] at h ⊢
        rw [am_ro_same ho]
        exact h
    · rename_i hno
      simp only [am_step, am_alen] at h ⊢
      split at h
      · rename_i o r
        exact absurd rfl (hno o r rfl)
      · cases h
  · have h1 : am_step am_X0 (op, len, a, b, w, cst) pc L st S = some q := by
      unfold am_stepC at h
      dsimp only at h
      split at h
      · rename_i he
        exact absurd rfl hop
      · exact h
    cases op <;> first | exact h1 | exact am_aload_same h1 | exact absurd rfl hop
def am_exe (call : Nat → List Value → am_S → Option am_R) (k : Nat) : Nat → Nat → am_L → List Value → am_S → Option am_R
  | 0, _, _, _, _ => none
  | n + 1, pc, L, st, S => match am_P k pc with
    | none => none
    | some i => match am_stepC i pc L st S with
      | some q => am_exe call k n q.1 q.2.1 q.2.2.1 q.2.2.2
      | none => match am_end (am_M1 k).2.2.2.1 i st S with
        | some r => some r
        | none => if am_isCall i.1 = true ∧ i.2.2.1 ≠ 99999 then (match am_args i st with
          | some (as, rest) => if am_recv am_M1 i as S = true then (match call i.2.2.1 as S with
            | some (.inl v, T) => am_exe call k n (pc + 3) L (v.toList ++ rest) T
            | some (.inr E, T) => if (am_M1 k).2.2.2.2 = [] then some (.inr E, T) else (match am_find (am_M1 k).2.2.2.2 pc E with
              | some x => some (.inl (some (.int x)), T)
              | none => none)
            | none => none) else none
          | none => none) else none
def am_exec (n : Nat) : Nat → Nat → List Value → am_S → Option am_R
  | 0, _, _, _ => none
  | d + 1, k, as, S => if (am_flat as).length ≤ (am_M1 k).2.2.1 then am_exe (am_exec n d) k n 0 (am_entry (am_M1 k).2.2.1 as) [] S else none
theorem am_exe_ok {X : Nat × (Nat → Int32)} {call : Nat → List Value → am_S → Option am_R} {d : Nat} (hc : ∀ k as S r, call k as S = some r → am_ev am_P am_M1 X d k as S r) {k : Nat} {r : am_R} : ∀ (n pc : Nat) (L : am_L) (st : List Value) (S : am_S), am_exe call k n pc L st S = some r → go X d k pc L st S r := by
  intro n
  induction n with
  | zero => intro pc L st S h; cases h
  | succ n ih =>
    intro pc L st S h
    simp only [am_exe] at h
    split at h
    · cases h
    · rename_i i hi
      split at h
      · rename_i q hq
        exact go_step hi (am_stepC_ok hq) (ih _ _ _ _ h)
      · split at h
        · rename_i r0 he
          cases h
          exact go_end hi he
        · split at h
          · rename_i hcall
            split at h
            · rename_i as rest ha
              split at h
              · rename_i hr
                split at h
                · rename_i v T hv
                  exact go_call hi hcall.1 hcall.2 ha hr (hc _ _ _ _ hv) (ih _ _ _ _ h)
                · rename_i E T hv
                  split at h
                  · rename_i hh
                    cases h
                    exact go_out hi hcall.1 hcall.2 ha hr (hc _ _ _ _ hv) hh
                  · split at h
                    · rename_i x hx
                      cases h
                      exact go_catch hi hcall.1 hcall.2 ha hr (hc _ _ _ _ hv) hx
                    · cases h
                · cases h
              · cases h
            · cases h
          · cases h
theorem am_exec_ok {X : Nat × (Nat → Int32)} {n : Nat} : ∀ (d k : Nat) (as : List Value) (S : am_S) (r : am_R), am_exec n d k as S = some r → am_ev am_P am_M1 X d k as S r := by
  intro d
  induction d with
  | zero => intro k as S r h; cases h
  | succ d ih =>
    intro k as S r h
    simp only [am_exec] at h
    split at h
    · rename_i hf
      exact ev_of hf (am_exe_ok ih n _ _ _ _ h)
    · cases h
/-- so many instructions of one frame, calls that return among them -/
def am_walk (call : Nat → List Value → am_S → Option am_R) (k : Nat) : Nat → am_F → Option am_F
  | 0, f => some f
  | n + 1, f => match am_P k f.1 with
    | none => none
    | some i => match am_stepC i f.1 f.2.1 f.2.2.1 f.2.2.2 with
      | some q => am_walk call k n q
      | none => if am_isCall i.1 = true ∧ i.2.2.1 ≠ 99999 then (match am_args i f.2.2.1 with
        | some (as, rest) => if am_recv am_M1 i as f.2.2.2 = true then (match call i.2.2.1 as f.2.2.2 with
          | some (.inl v, T) => am_walk call k n (f.1 + 3, f.2.1, v.toList ++ rest, T)
          | _ => none) else none
        | none => none) else none
theorem go_walk {X : Nat × (Nat → Int32)} {call : Nat → List Value → am_S → Option am_R} {d k : Nat} {r : am_R} (hc : ∀ k as S r, call k as S = some r → am_ev am_P am_M1 X d k as S r) : ∀ (n : Nat) {f g : am_F}, am_walk call k n f = some g → go X d k g.1 g.2.1 g.2.2.1 g.2.2.2 r → go X d k f.1 f.2.1 f.2.2.1 f.2.2.2 r := by
  intro n
  induction n with
  | zero => intro f g h hg; cases h; exact hg
  | succ n ih =>
    intro f g h hg
    simp only [am_walk] at h
    split at h
    · cases h
    · rename_i i hi
      split at h
      · rename_i q hq
        exact go_step hi (am_stepC_ok hq) (ih h hg)
      · split at h
        · rename_i hcall
          split at h
          · rename_i as rest ha
            split at h
            · rename_i hr
              split at h
              · rename_i v T hv
                exact go_call hi hcall.1 hcall.2 ha hr (hc _ _ _ _ hv) (ih h hg)
              · cases h
            · cases h
          · cases h
        · cases h
/-- THE LAW'S START: both objects and the array of one long are made; at the loop's head -/
def am_F0 : am_F := ((am_walk (am_exec 3000 8) 176 13 (0, am_entry 8 [.ref 1000000], [], am_S0))).getD (0, [], [], am_S0)
set_option maxRecDepth 1000000 in
theorem am_F0_pc : (am_walk (am_exec 3000 8) 176 13 (0, am_entry 8 [.ref 1000000], [], am_S0)).isSome = true := by decide +kernel
set_option maxRecDepth 1000000 in
theorem am_F0_1 : am_F0.1 = 23 := by decide +kernel
