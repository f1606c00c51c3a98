/-! WHAT THE SMALL MACHINE DOES, THE MACHINE DOES -/
def am_le (S T : am_S) : Prop := S.1 ≤ T.1 ∧ S.2.2.1 ≤ T.2.2.1 ∧ S.2.2.2 ≤ T.2.2.2 ∧ T.1 + S.2.2.1 ≤ T.2.2.1 + S.1
theorem am_le_rf (S : am_S) : am_le S S := ⟨Nat.le_refl _, Nat.le_refl _, Nat.le_refl _, by omega⟩
theorem am_le_tr {S T U : am_S} (h : am_le S T) (h2 : am_le T U) : am_le S U := by
  unfold am_le at *
  omega
theorem am_le_upd (S : am_S) (a : Nat) (x : am_C) : am_le S (am_upd S a x) := am_le_rf S
theorem am_le_push (S : am_S) (x : am_C) (n : Nat) : am_le S (am_push S x n) := by
  unfold am_le am_push
  dsimp only
  omega
theorem am_le_thrown (S : am_S) : am_le S (am_thrown S) := by
  unfold am_le am_thrown
  dsimp only
  omega
set_option maxHeartbeats 4000000 in
theorem am_step_le {X : Nat × (Nat → Int32)} {i : am_I} {pc : Nat} {L : am_L} {st : List Value} {S : am_S} {q : am_F} (h : am_step X i pc L st S = some q) : am_le S q.2.2.2 := by
  obtain ⟨op, len, a, b, w, cst⟩ := i
  cases op <;> simp only [am_step, am_load, am_store, am_aload, am_astore, am_alen, am_getf, am_putf, am_newa] at h <;>
    (repeat' (split at h)) <;>
    first | (cases h; done) | (cases h; exact am_le_rf S) | (cases h; exact am_le_upd S _ _) | (cases h; exact am_le_push S _ _)
theorem am_end_le {ret : Option FieldType} {i : am_I} {st : List Value} {S : am_S} {r : am_R} (h : am_end ret i st S = some r) : am_le S r.2 := by
  obtain ⟨op, len, a, b, w, cst⟩ := i
  unfold am_end at h
  dsimp only at h
  split at h
  · split at h
    · split at h
      · cases h; exact am_le_rf S
      · cases h
    · cases h
  · split at h
    · cases h; exact am_le_rf S
    · cases h
  · split at h
    · cases h; exact am_le_rf S
    · cases h
  · split at h
    · split at h
      · cases h; exact am_le_thrown S
      · cases h; exact am_le_thrown S
      · cases h; exact am_le_thrown S
      · cases h
    · cases h
  · cases h
theorem am_go_le {P : Nat → Nat → Option am_I} {M : Nat → am_M} {X : Nat × (Nat → Int32)} {ev : Nat → List Value → am_S → am_R → Prop} (hev : ∀ k as S r, ev k as S r → am_le S r.2) {k : Nat} :
    ∀ {n pc : Nat} {L : am_L} {st : List Value} {S : am_S} {r : am_R}, am_go P M X ev k n pc L st S r → am_le S r.2 := by
  intro n
  induction n with
  | zero => intro pc L st S r h; exact absurd h (by simp [am_go])
  | succ n ih =>
    intro pc L st S r h
    simp only [am_go] at h
    obtain ⟨i, hi, ⟨q, hq, hgo⟩ | he | ⟨-, -, as, rest, r1, -, -, hr1, hm⟩⟩ := h
    · exact am_le_tr (am_step_le hq) (ih hgo)
    · exact am_end_le he
    · have h1 := hev _ _ _ _ hr1
      split at hm
      · exact am_le_tr h1 (ih hm)
      · rcases hm with ⟨-, rfl⟩ | ⟨x, -, rfl⟩
        · exact h1
        · exact h1
theorem am_ev_le {P : Nat → Nat → Option am_I} {M : Nat → am_M} {X : Nat × (Nat → Int32)} : ∀ {d k : Nat} {as : List Value} {S : am_S} {r : am_R}, am_ev P M X d k as S r → am_le S r.2 := by
  intro d
  induction d with
  | zero => intro k as S r h; exact absurd h (by simp [am_ev])
  | succ d ih =>
    intro k as S r h
    simp only [am_ev] at h
    obtain ⟨-, n, hn⟩ := h
    exact am_go_le (fun k as S r h => ih h) hn
/-- what a handler is: it keeps the object, and gives back a number -/
def am_hok (M : Nat → am_M) (k : Nat) : Prop := ∀ h ∈ (M k).2.2.2.2, (∃ e9, e9 < 3 ∧ h.2.2.2.2.1 = am_exc (100 + e9)) ∧ h.2.2.2.1 ≠ 0 ∧ Cond.classLink (M k).1.cls h.2.2.2.1 h.2.2.2.2.1 ∈ am_gw ∧ Cond.castable h.2.2.2.2.1 h.2.2.2.2.1 ∈ am_nw ∧ (M k).2.2.2.1 = some .int ∧
  ∃ (n : Int) (q : Nat), Int32.ofInt n = h.2.2.2.2.2 ∧ ((∃ j : Fin 4, decode (M k).2.1 h.2.2.1 = .ok (.astore_n j, 1) ∧ q = h.2.2.1 + 1 ∧ (j : Nat) < (M k).2.2.1) ∨ (∃ j : Nat, decode (M k).2.1 h.2.2.1 = .ok (.astore j, 2) ∧ q = h.2.2.1 + 2 ∧ j < (M k).2.2.1)) ∧
    decode (M k).2.1 q = .ok (.iconst n, 1) ∧ decode (M k).2.1 (q + 1) = .ok (.ireturn, 1)
theorem am_find_split {pc : Nat} {E : String} {x : Int32} : ∀ {hs : List (Nat × Nat × Nat × Nat × String × Int32)}, am_find hs pc E = some x →
    ∃ pre h suf, hs = pre ++ h :: suf ∧ (h.1 ≤ pc ∧ pc < h.2.1) ∧ h.2.2.2.2.1 = E ∧ h.2.2.2.2.2 = x ∧ ∀ y ∈ pre, ¬ (y.1 ≤ pc ∧ pc < y.2.1 ∧ y.2.2.2.2.1 = E) := by
  intro hs
  induction hs with
  | nil => intro h; cases h
  | cons y t ih =>
    intro h
    unfold am_find at h
    split at h
    · rename_i hc
      exact ⟨[], y, t, rfl, ⟨hc.1, hc.2.1⟩, hc.2.2, Option.some.inj h, fun z hz => by cases hz⟩
    · rename_i hc
      obtain ⟨pre, h0, suf, e1, e2, e3, e4, e5⟩ := ih h
      refine ⟨y :: pre, h0, suf, by rw [e1]; rfl, e2, e3, e4, fun z hz => ?_⟩
      rcases List.mem_cons.mp hz with rfl | hz
      · exact hc
      · exact e5 z hz
theorem am_thr_ok : ∀ q ∈ am_thr, (∀ w ∈ vx_at0 q.1 q.2.1 q.2.2 am_names, w ∈ am_gw ∨ w ∈ am_nw) ∧ (∀ w ∈ vx_at0 q.1 q.2.1 q.2.2 am_names, vx_ot w = true) ∧ Bundle.fit q.2.2 = true ∧ Cond.initialized q.2.2 ∈ am_gw := by decide +kernel
theorem am_names_fit : ∀ n ∈ am_names, Bundle.fit n = true := by decide +kernel
