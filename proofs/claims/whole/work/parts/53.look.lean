/-! LOOKING A VALUE UP, as it lies in the bytes -/
/-- type, flags, place -/
abbrev jV : Type := Nat × Nat × Nat
theorem cnum_mono {B : Nat → Int32} {lim lim2 : Nat} (hl : lim ≤ lim2) : ∀ (n k p : Nat) (v : Int64) (r : Int64 × Nat), cnum B lim n k p v = some r → cnum B lim2 n k p v = some r := by
  intro n
  induction n with
  | zero => intro k p v r h; cases h
  | succ n ih =>
    intro k p v r h
    unfold cnum at h ⊢
    split at h
    · cases h
    · rename_i hp
      rw [if_neg (by omega)]
      split at h
      · rename_i hq; rw [if_pos hq]; exact h
      · rename_i hq; rw [if_neg hq]; exact ih _ _ _ _ h
theorem num9_mono {B : Nat → Int32} {lim lim2 p : Nat} {r : Int64 × Nat} (h : num9 B lim p = some r) (hl : lim ≤ lim2) : num9 B lim2 p = some r := cnum_mono hl _ _ _ _ _ h
theorem cnt_mono {B : Nat → Int32} {lim lim2 p : Nat} {r : Nat × Nat} (h : cnt B lim p = some r) (hl : lim ≤ lim2) : cnt B lim2 p = some r := by
  unfold cnt at h ⊢
  cases e : num9 B lim p with
  | none => rw [e] at h; cases h
  | some q => rw [num9_mono e hl]; rw [e] at h; exact h
theorem rdP_mono {b : Nat → Nat} {lim lim2 ty p : Nat} {r : Int64 × Nat} (h : rdP b lim ty p = some r) (hl : lim ≤ lim2) : rdP b lim2 ty p = some r := by
  unfold rdP at h ⊢
  split at h
  · rename_i c; rw [if_pos c]
    split at h
    · cases h
    · rw [if_neg (by omega)]; exact h
  · rename_i c; rw [if_neg c]
    split at h
    · rename_i c; rw [if_pos c]
      split at h
      · cases h
      · rw [if_neg (by omega)]; exact h
    · rename_i c; rw [if_neg c]
      split at h
      · rename_i c; rw [if_pos c]
        split at h
        · cases h
        · rw [if_neg (by omega)]; exact h
      · rename_i c; rw [if_neg c]
        split at h
        · rename_i c; rw [if_pos c]
          split at h
          · cases h
          · rw [if_neg (by omega)]; exact h
        · rename_i c; rw [if_neg c]
          cases e : num9 (Bn b) lim p with
          | none => rw [e] at h; cases h
          | some q => rw [num9_mono e hl]; rw [e] at h; exact h
theorem nls_mono {b : Nat → Nat} {lim lim2 : Nat} (hl : lim ≤ lim2) : ∀ {k p : Nat} {r : List Nat × Nat}, nls b lim k p = .inr r → nls b lim2 k p = .inr r := by
  intro k
  induction k with
  | zero => intro p r h; exact h
  | succ k ih =>
    intro p r h
    unfold nls at h ⊢
    cases e : num9 (Bn b) lim p with
    | none => rw [e] at h; cases h
    | some q =>
      obtain ⟨v, p1⟩ := q
      rw [num9_mono e hl]
      rw [e] at h
      dsimp only at h ⊢
      cases e2 : nls b lim k p1 with
      | inl er => rw [e2] at h; cases h
      | inr q2 => rw [ih e2]; rw [e2] at h; exact h
theorem rdX_mono {b : Nat → Nat} {lim lim2 p : Nat} {r : jTV × Nat} (h : rdX b lim p = .inr r) (hl : lim ≤ lim2) : rdX b lim2 p = .inr r := by
  unfold rdX at h ⊢
  split at h
  · cases h
  · rw [if_neg (by omega)]
    split at h
    · rename_i c; rw [if_pos c]; exact h
    · rename_i c; rw [if_neg c]
      split at h
      · rename_i c; rw [if_pos c]
        cases e : num9 (Bn b) lim (p + 1) with
        | none => rw [e] at h; cases h
        | some q => rw [num9_mono e hl]; rw [e] at h; exact h
      · rename_i c; rw [if_neg c]
        split at h
        · cases h
        · rename_i c; rw [if_neg c]
          split at h
          · rename_i c; rw [if_pos c]; exact h
          · rename_i c; rw [if_neg c]
            cases e : cnt (Bn b) lim (p + 1) with
            | none => rw [e] at h; cases h
            | some q =>
              obtain ⟨n, p1⟩ := q
              rw [cnt_mono e hl]
              rw [e] at h
              dsimp only at h ⊢
              split at h
              · rename_i c; rw [if_pos c]
                cases e2 : nls b lim n p1 with
                | inl er => rw [e2] at h; cases h
                | inr q2 => rw [nls_mono hl e2]; rw [e2] at h; exact h
              · rename_i c; rw [if_neg c]
                split at h
                · cases h
                · rw [if_neg (by omega)]; exact h
theorem DS_rv {f : Nat → Nat → Nat → Nat → (Int32 × Nat) ⊕ (Nat × Nat)} {D : Nat → Nat → Nat → Nat → Nat → Nat → Nat → Nat → Prop} (hD : ∀ ty fl p n l p' n' l', D ty fl p n l p' n' l' → ∀ m, ∃ m', f ty fl p m = .inr (p', m')) : ∀ {js : List (Nat × Nat)} {p n l p' n' l' : Nat}, DS D js p n l p' n' l' → ∀ m, ∃ m', rvs f js p m = .inr (p', m') := by
  intro js
  induction js with
  | nil => intro p n l p' n' l' h m; obtain ⟨h1, _, _⟩ := h; subst h1; exact ⟨m, rfl⟩
  | cons j js ih =>
    intro p n l p' n' l' h m
    obtain ⟨ty, fl⟩ := j
    obtain ⟨p1, n1, l1, h1, h2⟩ := h
    obtain ⟨m1, e1⟩ := hD _ _ _ _ _ _ _ _ h1 m
    obtain ⟨m2, e2⟩ := ih h2 m1
    exact ⟨m2, by unfold rvs; rw [e1]; exact e2⟩
/-- what lies in the arrays can be read again, from the bytes, with any larger limit -/
theorem DV_rv {τ : jTT} {b : Nat → Nat} {lim tot : Nat} {A : jVA} (hl : lim ≤ tot) : ∀ (h h2 : Nat), h ≤ h2 → ∀ (ty fl p n l p' n' l' : Nat), DV τ b lim A h ty fl p n l p' n' l' → ∀ m, ∃ m', rv τ b false tot h2 ty fl p m = .inr (p', m') := by
  intro h
  induction h with
  | zero => intro h2 _ ty fl p n l p' n' l' hd; exact hd.elim
  | succ h ih =>
    intro h2 hh ty fl p n l p' n' l' hd m
    obtain ⟨h3, rfl⟩ : ∃ h3, h2 = h3 + 1 := ⟨h2 - 1, by omega⟩
    have ih2 := ih h3 (by omega)
    unfold DV at hd
    unfold rv
    rw [if_neg (by simp)]
    rcases hd.2.2.2 with ⟨q1, len, p1, q2, q3, q4, q5⟩ | ⟨q1, q2, q3, v, q4, q5, q6, q7⟩ | ⟨q1, q2, q3, tv, q4, q5⟩ | ⟨q1, q2, q3, q4, q5, v, q6, q7, q8⟩ | ⟨q1, q2, t, x, q3, q4, q5, q6, q7, q8⟩
    · rw [if_pos q1, cnt_mono q2 hl]
      exact DS_rv ih2 q5 (m + 1)
    · rw [if_neg (by omega), if_pos q1, num9_mono q4 hl]
      exact ⟨m + 1, rfl⟩
    · rw [if_neg (by omega), if_neg (by omega), if_pos q2, rdX_mono q4 hl]
      exact ⟨m + 1, rfl⟩
    · rw [if_neg (by omega), if_neg (by omega), if_neg (by omega), if_pos q3, rdP_mono q6 hl]
      exact ⟨m + 1, rfl⟩
    · rw [if_neg (by omega), if_neg (by omega), if_neg (by omega), if_neg (by omega), q3]
      dsimp only
      rw [q4]
      exact DS_rv ih2 q8 (m + 1)
/-- node nd holds the value of w -/
def nv (τ : jTT) (b : Nat → Nat) (tot : Nat) (A : jVA) (nd : Nat) (w : jV) : Prop := ∃ h lim l p' n' l', h ≤ 21 ∧ lim ≤ tot ∧ l' ≤ 960 ∧ DV τ b lim A h w.1 w.2.1 w.2.2 nd l p' n' l'
/-- what one character leads to -/
def stp (τ : jTT) (b : Nat → Nat) (tot : Nat) (w : jV) (c : Nat) : Option jV :=
  if 2 ≤ w.2.1 then (if c < 48 ∨ 57 < c then none else (match cnt (Bn b) tot w.2.2 with
    | none => none
    | some (len, p1) => if len ≤ c - 48 then none else (match rvs (rv τ b false tot 21) (List.replicate (c - 48) (w.1, w.2.1 % 2)) p1 0 with
      | .inl _ => none
      | .inr (p2, _) => some (w.1, w.2.1 % 2, p2))))
  else if w.2.1 = 0 ∧ 10 < w.1 then (match tix τ w.1 with
    | none => none
    | some t => (match τ[t]? with
      | none => none
      | some x => (match fdx x.2.2.2 c with
        | none => none
        | some f => (match x.2.2.2[f]? with
          | none => none
          | some y => (match rvs (rv τ b false tot 21) (fjs (x.2.2.2.take f)) w.2.2 0 with
            | .inl _ => none
            | .inr (p2, _) => some (y.2.1, y.2.2, p2))))))
  else none
/-- its key, if it is one -/
def kyOf (b : Nat → Nat) (tot : Nat) (w : jV) : Option Int64 :=
  if w.2.1 = 1 then (num9 (Bn b) tot w.2.2).map (fun q => q.1)
  else if w.2.1 = 0 ∧ w.1 = 10 ∧ b w.2.2 = 2 then (num9 (Bn b) tot (w.2.2 + 1)).map (fun q => q.1)
  else none
def cst (L : List jK) (ty : Nat) (key : Int64) : Option jK := L.find? (fun k => decide (k.1 = ty ∧ k.2.1 = key))
/-- keys are followed, f times at most -/
def stl (b : Nat → Nat) (tot : Nat) (L : List jK) : Nat → jV → Option jV
  | 0, w => (match kyOf b tot w with
    | none => some w
    | some _ => none)
  | f + 1, w => (match kyOf b tot w with
    | none => some w
    | some key => (match cst L w.1 key with
      | none => none
      | some k => stl b tot L f (k.1, 0, k.2.2.1)))
/-- the i-th character of a path -/
def stepAt (path : Int32) (i : Nat) : Nat := path.toBitVec.toNat / 2 ^ (8 * i) % 256
/-- where a path leads: to nothing, to null, or to a value -/
def ldp (τ : jTT) (b : Nat → Nat) (tot : Nat) (L : List jK) (path : Int32) : Nat → Nat → Option jV → Option (Option jV)
  | 0, _, v => some v
  | f + 1, i, v => if stepAt path i = 0 then some v else (match v with
    | none => none
    | some w => (match stp τ b tot w (stepAt path i) with
      | none => none
      | some w' => ldp τ b tot L path f (i + 1) (stl b tot L 6 w')))
def kdOf (b : Nat → Nat) (w : jV) : Nat := if 2 ≤ w.2.1 then 12 else if w.2.1 = 1 then 13 else if w.1 = 10 then (if b w.2.2 = 0 then 1 else if b w.2.2 = 2 then 13 else 10) else if w.1 < 10 then w.1 else 11
def lsOf (b : Nat → Nat) (tot : Nat) (w : jV) : List Nat := match rdX b tot w.2.2 with
  | .inr (.inr (.inr ls), _) => ls
  | _ => []
def wrOf (τ : jTT) (b : Nat → Nat) (tot : Nat) (w : jV) : Int64 :=
  if kdOf b w = 12 then (match cnt (Bn b) tot w.2.2 with
    | none => 0
    | some (len, _) => lN len)
  else if kdOf b w = 10 then lN (lsOf b tot w).length
  else if kdOf b w = 11 then (match tix τ w.1 with
    | none => 0
    | some t => (match τ[t]? with
      | none => 0
      | some x => lN x.2.1))
  else if kdOf b w = 1 then 0
  else (match rdP b tot w.1 w.2.2 with
    | none => 0
    | some (v, _) => v)
/-! what the arrays tell of it -/
theorem rdX_kd {b : Nat → Nat} {lim p p' : Nat} {tv : jTV} (h : rdX b lim p = .inr (tv, p')) : (b p = 0 ∧ tv = .inl ()) ∨ (b p = 2 ∧ ∃ v, tv = .inr (.inl v) ∧ num9 (Bn b) lim (p + 1) = some (v, p')) ∨ (b p ≠ 0 ∧ b p ≠ 2 ∧ ∃ ls, tv = .inr (.inr ls)) := by
  unfold rdX at h
  split at h
  · cases h
  · split at h
    · cases h; exact Or.inl ⟨by assumption, rfl⟩
    · split at h
      · split at h
        · cases h
        · rename_i v p1 e
          cases h
          exact Or.inr (Or.inl ⟨by assumption, v, rfl, e⟩)
      · refine Or.inr (Or.inr ⟨by assumption, by assumption, ?_⟩)
        split at h
        · cases h
        · split at h
          · cases h; exact ⟨_, rfl⟩
          · split at h
            · cases h
            · split at h
              · split at h
                · cases h
                · cases h; exact ⟨_, rfl⟩
              · split at h
                · cases h
                · split at h
                  · split at h
                    · cases h
                    · cases h; exact ⟨_, rfl⟩
                  · cases h; exact ⟨_, rfl⟩
theorem nv_kd {τ : jTT} {b : Nat → Nat} {tot : Nat} {A : jVA} {nd : Nat} {w : jV} (h : nv τ b tot A nd w) : A.1 nd = nI (kdOf b w) ∧ nd < 1201 ∧ kdOf b w ≤ 13 := by
  obtain ⟨h, lim, l, p', n', l', h1, h2, h3, hd⟩ := h
  cases h with
  | zero => exact hd.elim
  | succ h =>
    unfold DV at hd
    have hn := hd.2.1
    have hn2 := hd.2.2.1
    unfold kdOf
    rcases hd.2.2.2 with ⟨q1, len, p1, q2, q3, q4, q5⟩ | ⟨q1, q2, q3, v, q4, q5, q6, q7⟩ | ⟨q1, q2, q3, tv, q4, q5⟩ | ⟨q1, q2, q3, q4, q5, v, q6, q7, q8⟩ | ⟨q1, q2, t, x, q3, q4, q5, q6, q7, q8⟩
    · rw [if_pos q1]; exact ⟨q3, by omega, by omega⟩
    · rw [if_neg (by omega), if_pos q1]; exact ⟨q5, by omega, by omega⟩
    · rw [if_neg (by omega), if_neg (by omega), if_pos q2]
      rcases rdX_kd q4 with ⟨g1, g2⟩ | ⟨g1, v, g2, g3⟩ | ⟨g1, g2, ls, g3⟩
      · subst g2; rw [if_pos g1]; exact ⟨q5.1, by omega, by omega⟩
      · subst g2; rw [if_neg (by omega), if_pos g1]; exact ⟨q5.1, by omega, by omega⟩
      · subst g3; rw [if_neg g1, if_neg g2]; exact ⟨q5.1, by omega, by omega⟩
    · rw [if_neg (by omega), if_neg (by omega), if_neg (by omega), if_pos q3]; exact ⟨q7, by omega, by omega⟩
    · rw [if_neg (by omega), if_neg (by omega), if_neg (by omega), if_neg (by omega)]; exact ⟨q5, by omega, by omega⟩
theorem nv_key {τ : jTT} {b : Nat → Nat} {tot : Nat} {A : jVA} {nd : Nat} {w : jV} (h : nv τ b tot A nd w) : (kdOf b w = 13 ∧ kyOf b tot w = some (A.2.1 nd) ∧ A.2.2.1 nd = nI w.1) ∨ (kdOf b w ≠ 13 ∧ kyOf b tot w = none) := by
  obtain ⟨h, lim, l, p', n', l', h1, h2, h3, hd⟩ := h
  cases h with
  | zero => exact hd.elim
  | succ h =>
    unfold DV at hd
    unfold kdOf kyOf
    rcases hd.2.2.2 with ⟨q1, len, p1, q2, q3, q4, q5⟩ | ⟨q1, q2, q3, v, q4, q5, q6, q7⟩ | ⟨q1, q2, q3, tv, q4, q5⟩ | ⟨q1, q2, q3, q4, q5, v, q6, q7, q8⟩ | ⟨q1, q2, t, x, q3, q4, q5, q6, q7, q8⟩
    · rw [if_pos q1, if_neg (by omega), if_neg (by omega)]; exact Or.inr ⟨by omega, rfl⟩
    · rw [if_neg (by omega), if_pos q1, if_pos q1, num9_mono q4 h2]; exact Or.inl ⟨rfl, by rw [q6]; rfl, q7⟩
    · have hk2 : ¬ 2 ≤ w.2.1 := by omega
      have hk1 : ¬ w.2.1 = 1 := by omega
      rw [if_neg hk2]
      rw [if_neg hk1]
      rw [if_pos q2]
      rw [if_neg hk1]
      rcases rdX_kd q4 with ⟨g1, g2⟩ | ⟨g1, v, g2, g3⟩ | ⟨g1, g2, ls, g3⟩
      · have hb2 : ¬ (w.2.1 = 0 ∧ w.1 = 10 ∧ b w.2.2 = 2) := fun h9 => by have := h9.2.2; omega
        subst g2; rw [if_pos g1, if_neg hb2]; exact Or.inr ⟨by omega, rfl⟩
      · have hb0 : ¬ b w.2.2 = 0 := by omega
        subst g2; rw [if_neg hb0, if_pos g1, if_pos ⟨q1, q2, g1⟩, num9_mono g3 h2]; exact Or.inl ⟨rfl, by rw [q5.2.1]; rfl, by rw [q5.2.2.1, q2]; rfl⟩
      · subst g3; rw [if_neg g1, if_neg g2, if_neg (fun h9 => g2 h9.2.2)]; exact Or.inr ⟨by omega, rfl⟩
    · rw [if_neg (by omega), if_neg (by omega), if_neg (by omega), if_pos q3, if_neg (by omega), if_neg (by omega)]; exact Or.inr ⟨by omega, rfl⟩
    · rw [if_neg (by omega), if_neg (by omega), if_neg (by omega), if_neg (by omega), if_neg (by omega), if_neg (by omega)]; exact Or.inr ⟨by omega, rfl⟩
theorem nv_wr {τ : jTT} {b : Nat → Nat} {tot : Nat} {A : jVA} {nd : Nat} {w : jV} (h : nv τ b tot A nd w) (hk : kdOf b w ≠ 13) : A.2.1 nd = wrOf τ b tot w := by
  obtain ⟨h, lim, l, p', n', l', h1, h2, h3, hd⟩ := h
  cases h with
  | zero => exact hd.elim
  | succ h =>
    unfold DV at hd
    unfold wrOf
    have hkd : kdOf b w = kdOf b w := rfl
    conv at hkd => rhs; unfold kdOf
    rcases hd.2.2.2 with ⟨q1, len, p1, q2, q3, q4, q5⟩ | ⟨q1, q2, q3, v, q4, q5, q6, q7⟩ | ⟨q1, q2, q3, tv, q4, q5⟩ | ⟨q1, q2, q3, q4, q5, v, q6, q7, q8⟩ | ⟨q1, q2, t, x, q3, q4, q5, q6, q7, q8⟩
    · rw [if_pos q1] at hkd
      rw [if_pos hkd, cnt_mono q2 h2]; exact q4
    · rw [if_neg (by omega), if_pos q1] at hkd
      exact absurd hkd hk
    · rw [if_neg (by omega), if_neg (by omega), if_pos q2] at hkd
      rcases rdX_kd q4 with ⟨g1, g2⟩ | ⟨g1, v, g2, g3⟩ | ⟨g1, g2, ls, g3⟩
      · subst g2; rw [if_pos g1] at hkd
        rw [if_neg (by omega), if_neg (by omega), if_neg (by omega), if_pos hkd]; exact q5.2.1
      · rw [if_neg (by omega), if_pos g1] at hkd; exact absurd hkd hk
      · subst g3; rw [if_neg g1, if_neg g2] at hkd
        rw [if_neg (by omega), if_pos hkd]
        unfold lsOf
        rw [rdX_mono q4 h2]
        exact q5.2.1
    · rw [if_neg (by omega), if_neg (by omega), if_neg (by omega), if_pos q3] at hkd
      rw [if_neg (by omega), if_neg (by omega), if_neg (by omega), if_neg (by omega), rdP_mono q6 h2]; exact q8
    · rw [if_neg (by omega), if_neg (by omega), if_neg (by omega), if_neg (by omega)] at hkd
      rw [if_neg (by omega), if_neg (by omega), if_pos hkd, q3]
      dsimp only
      rw [q4]
      exact q6
theorem nv_ls {τ : jTT} {b : Nat → Nat} {tot : Nat} {A : jVA} {nd : Nat} {w : jV} (h : nv τ b tot A nd w) (hk : kdOf b w = 10) : ∃ l, A.2.1 nd = lN (lsOf b tot w).length ∧ A.2.2.1 nd = nI l ∧ l + (lsOf b tot w).length ≤ 960 ∧ ∀ (i x : Nat), (lsOf b tot w)[i]? = some x → A.2.2.2.2 (l + i) = nI x := by
  obtain ⟨h, lim, l, p', n', l', h1, h2, h3, hd⟩ := h
  cases h with
  | zero => exact hd.elim
  | succ h =>
    unfold DV at hd
    unfold kdOf at hk
    rcases hd.2.2.2 with ⟨q1, len, p1, q2, q3, q4, q5⟩ | ⟨q1, q2, q3, v, q4, q5, q6, q7⟩ | ⟨q1, q2, q3, tv, q4, q5⟩ | ⟨q1, q2, q3, q4, q5, v, q6, q7, q8⟩ | ⟨q1, q2, t, x, q3, q4, q5, q6, q7, q8⟩
    · rw [if_pos q1] at hk; omega
    · rw [if_neg (by omega), if_pos q1] at hk; omega
    · rw [if_neg (by omega), if_neg (by omega), if_pos q2] at hk
      rcases rdX_kd q4 with ⟨g1, g2⟩ | ⟨g1, v, g2, g3⟩ | ⟨g1, g2, ls, g3⟩
      · rw [if_pos g1] at hk; omega
      · rw [if_neg (by omega), if_pos g1] at hk; omega
      · subst g3
        unfold lsOf
        rw [rdX_mono q4 h2]
        obtain ⟨a1, a2, a3, a4, a5⟩ := q5
        exact ⟨l, a2, a3, by dsimp only; omega, a5⟩
    · rw [if_neg (by omega), if_neg (by omega), if_neg (by omega), if_pos q3] at hk; omega
    · rw [if_neg (by omega), if_neg (by omega), if_neg (by omega), if_neg (by omega)] at hk; omega
/-- a sequence may be cut -/
theorem DS_cut {D : Nat → Nat → Nat → Nat → Nat → Nat → Nat → Nat → Prop} : ∀ (m : Nat) {js : List (Nat × Nat)} {p n l p' n' l' : Nat}, DS D js p n l p' n' l' → ∃ p1 n1 l1, DS D (js.take m) p n l p1 n1 l1 ∧ DS D (js.drop m) p1 n1 l1 p' n' l' := by
  intro m
  induction m with
  | zero => intro js p n l p' n' l' h; exact ⟨p, n, l, ⟨rfl, rfl, rfl⟩, h⟩
  | succ m ih =>
    intro js p n l p' n' l' h
    cases js with
    | nil => exact ⟨p, n, l, ⟨rfl, rfl, rfl⟩, h⟩
    | cons j js =>
      obtain ⟨p1, n1, l1, h1, h2⟩ := h
      obtain ⟨p2, n2, l2, h3, h4⟩ := ih h2
      exact ⟨p2, n2, l2, ⟨p1, n1, l1, h1, h3⟩, h4⟩
