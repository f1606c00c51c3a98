/-! RULES OF THE SMALL MACHINE: 'go X d k pc L st S r': the frame of method k at pc comes to r, its callees at most d deep -/
def go (X : Nat × (Nat → Int32)) (d k pc : Nat) (L : am_L) (st : List Value) (S : am_S) (r : am_R) : Prop := ∃ n, am_go am_P am_M1 X (am_ev am_P am_M1 X d) k n pc L st S r
section GO
variable {X : Nat × (Nat → Int32)} {d k pc : Nat} {L : am_L} {st : List Value} {S : am_S} {r : am_R}
theorem go_step {i : am_I} {q : am_F} (hi : am_P k pc = some i) (hs : am_step X i pc L st S = some q) (h : go X d k q.1 q.2.1 q.2.2.1 q.2.2.2 r) : go X d k pc L st S r := by
  obtain ⟨n, h⟩ := h
  refine ⟨n + 1, ?_⟩
  simp only [am_go]
  exact ⟨i, hi, Or.inl ⟨q, hs, h⟩⟩
theorem go_end {i : am_I} (hi : am_P k pc = some i) (he : am_end (am_M1 k).2.2.2.1 i st S = some r) : go X d k pc L st S r := by
  refine ⟨1, ?_⟩
  simp only [am_go]
  exact ⟨i, hi, Or.inr (Or.inl he)⟩
theorem go_call {i : am_I} {as rest : List Value} {v : Option Value} {T : am_S} (hi : am_P k pc = some i) (hc : am_isCall i.1 = true) (hn : i.2.2.1 ≠ 99999) (ha : am_args i st = some (as, rest)) (hr : am_recv am_M1 i as S = true) (hev : am_ev am_P am_M1 X d i.2.2.1 as S (.inl v, T))
    (h : go X d k (pc + 3) L (v.toList ++ rest) T r) : go X d k pc L st S r := by
  obtain ⟨n, h⟩ := h
  refine ⟨n + 1, ?_⟩
  simp only [am_go]
  exact ⟨i, hi, Or.inr (Or.inr ⟨hc, hn, as, rest, (.inl v, T), ha, hr, hev, h⟩)⟩
/-- a callee's throw goes on to the caller -/
theorem go_out {i : am_I} {as rest : List Value} {E : String} {T : am_S} (hi : am_P k pc = some i) (hc : am_isCall i.1 = true) (hn : i.2.2.1 ≠ 99999) (ha : am_args i st = some (as, rest)) (hr : am_recv am_M1 i as S = true) (hev : am_ev am_P am_M1 X d i.2.2.1 as S (.inr E, T))
    (hh : (am_M1 k).2.2.2.2 = []) : go X d k pc L st S (.inr E, T) := by
  refine ⟨1, ?_⟩
  simp only [am_go]
  exact ⟨i, hi, Or.inr (Or.inr ⟨hc, hn, as, rest, (.inr E, T), ha, hr, hev, Or.inl ⟨hh, rfl⟩⟩)⟩
/-- a callee's throw is caught here -/
theorem go_catch {i : am_I} {as rest : List Value} {E : String} {T : am_S} {x : Int32} (hi : am_P k pc = some i) (hc : am_isCall i.1 = true) (hn : i.2.2.1 ≠ 99999) (ha : am_args i st = some (as, rest)) (hr : am_recv am_M1 i as S = true) (hev : am_ev am_P am_M1 X d i.2.2.1 as S (.inr E, T))
    (hf : am_find (am_M1 k).2.2.2.2 pc E = some x) : go X d k pc L st S (.inl (some (.int x)), T) := by
  refine ⟨1, ?_⟩
  simp only [am_go]
  exact ⟨i, hi, Or.inr (Or.inr ⟨hc, hn, as, rest, (.inr E, T), ha, hr, hev, Or.inr ⟨x, hf, rfl⟩⟩)⟩
theorem ev_of {as : List Value} (hf : (am_flat as).length ≤ (am_M1 k).2.2.1) (h : go X d k 0 (am_entry (am_M1 k).2.2.1 as) [] S r) : am_ev am_P am_M1 X (d + 1) k as S r := ⟨hf, h⟩
/-- more depth does no harm -/
theorem am_go_mono {P : Nat → Nat → Option am_I} {M : Nat → am_M} {ev ev' : Nat → List Value → am_S → am_R → Prop} (hev : ∀ k as S r, ev k as S r → ev' k as S r) : ∀ (n pc : Nat) (L : am_L) (st : List Value) (S : am_S), am_go P M X ev k n pc L st S r → am_go P M X ev' k n pc L st S r := by
  intro n
  induction n with
  | zero => intro pc L st S h; exact h
  | succ n ih =>
    intro pc L st S h
    simp only [am_go] at h ⊢
    obtain ⟨i, hi, ⟨q, hq, hg⟩ | he | ⟨h1, h2, as, rest, r1, h3, h4, h5, h6⟩⟩ := h
    · exact ⟨i, hi, Or.inl ⟨q, hq, ih _ _ _ _ hg⟩⟩
    · exact ⟨i, hi, Or.inr (Or.inl he)⟩
    · refine ⟨i, hi, Or.inr (Or.inr ⟨h1, h2, as, rest, r1, h3, h4, hev _ _ _ _ h5, ?_⟩)⟩
      split at h6
      · exact ih _ _ _ _ h6
      · exact h6
theorem ev_mono1 : ∀ (d k : Nat) (as : List Value) (S : am_S) (r : am_R), am_ev am_P am_M1 X d k as S r → am_ev am_P am_M1 X (d + 1) k as S r := by
  intro d
  induction d with
  | zero => intro k as S r h; exact absurd h (by simp [am_ev])
  | succ d ih =>
    intro k as S r h
    simp only [am_ev] at h
    obtain ⟨h1, n, h2⟩ := h
    exact ⟨h1, n, am_go_mono (fun k as S r h => ih k as S r h) n _ _ _ _ h2⟩
theorem ev_mono {d d' : Nat} (hd : d ≤ d') {k : Nat} {as : List Value} {S : am_S} {r : am_R} (h : am_ev am_P am_M1 X d k as S r) : am_ev am_P am_M1 X d' k as S r := by
  induction hd with
  | refl => exact h
  | step _ ih => exact ev_mono1 _ _ _ _ _ ih
/-- several steps at once -/
def am_steps (X : Nat × (Nat → Int32)) (k : Nat) : Nat → am_F → Option am_F
  | 0, f => some f
  | n + 1, f => match am_P k f.1 with
    | some i => (match am_step X i f.1 f.2.1 f.2.2.1 f.2.2.2 with
      | some g => am_steps X k n g
      | none => none)
    | none => none
theorem go_steps : ∀ (n : Nat) {f g : am_F}, am_steps X k n f = some g → go X d k g.1 g.2.1 g.2.2.1 g.2.2.2 r → go X d k f.1 f.2.1 f.2.2.1 f.2.2.2 r := by
  intro n
  induction n with
  | zero => intro f g h hg; cases h; exact hg
  | succ n ih =>
    intro f g h hg
    simp only [am_steps] at h
    split at h
    · rename_i i hi
      split at h
      · rename_i q hq
        exact go_step hi hq (ih h hg)
      · cases h
    · cases h
end GO
