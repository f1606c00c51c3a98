/-! VALUES, as they lie in the bytes -/
/-- a character in UTF-8 that ends before stop: its code and its bytes -/
def u8 (b : Nat → Nat) (stop p : Nat) : Option (Nat × Nat) :=
  if b p < 128 then some (b p, 1)
  else if b p < 192 then none
  else if b p < 224 then (if stop ≤ p + 1 then none else if b (p + 1) < 128 ∨ 191 < b (p + 1) then none else if b p % 32 * 64 + b (p + 1) % 64 < 128 then none else some (b p % 32 * 64 + b (p + 1) % 64, 2))
  else if b p < 240 then (if stop ≤ p + 2 then none else if b (p + 1) < 128 ∨ 191 < b (p + 1) then none else if b (p + 2) < 128 ∨ 191 < b (p + 2) then none
    else if (b p % 16 * 64 + b (p + 1) % 64) * 64 + b (p + 2) % 64 < 2048 ∨ (55296 ≤ (b p % 16 * 64 + b (p + 1) % 64) * 64 + b (p + 2) % 64 ∧ (b p % 16 * 64 + b (p + 1) % 64) * 64 + b (p + 2) % 64 ≤ 57343) then none
    else some ((b p % 16 * 64 + b (p + 1) % 64) * 64 + b (p + 2) % 64, 3))
  else none
theorem u8_ok {b : Nat → Nat} {stop p x m : Nat} (h : u8 b stop p = some (x, m)) (hp : p < stop) : 1 ≤ m ∧ m ≤ 3 ∧ p + m ≤ stop ∧ x < 65536 := by
  unfold u8 at h
  split at h
  · cases h; omega
  · split at h
    · cases h
    · split at h
      · split at h
        · cases h
        · split at h
          · cases h
          · split at h
            · cases h
            · cases h; omega
      · split at h
        · split at h
          · cases h
          · split at h
            · cases h
            · split at h
              · cases h
              · split at h
                · cases h
                · cases h; omega
        · cases h
/-- the characters up to stop; fuel: as many as there are bytes -/
def us (b : Nat → Nat) (stop : Nat) : Nat → Nat → (Int32 × Nat) ⊕ List Nat
  | 0, _ => .inr []
  | k + 1, p => if stop ≤ p then .inr [] else (match u8 b stop p with
    | none => .inl (6, p)
    | some (x, m) => (match us b stop k (p + m) with
      | .inl e => .inl e
      | .inr ls => .inr (x :: ls)))
/-- a char out of a number -/
def c16 (v : Int64) : Nat := v.toInt32.toBitVec.toNat % 65536
def nls (b : Nat → Nat) (lim : Nat) : Nat → Nat → (Int32 × Nat) ⊕ (List Nat × Nat)
  | 0, p => .inr ([], p)
  | k + 1, p => (match num9 (Bn b) lim p with
    | none => .inl (2, p)
    | some (v, p1) => (match nls b lim k p1 with
      | .inl e => .inl e
      | .inr (ls, p2) => .inr (c16 v :: ls, p2)))
def bls (b : Nat → Nat) : Nat → Nat → List Nat
  | 0, _ => []
  | k + 1, p => b p :: bls b k (p + 1)
/-- nothing, a key, or letters -/
abbrev jTV : Type := Unit ⊕ (Int64 ⊕ List Nat)
def rdX (b : Nat → Nat) (lim p : Nat) : (Int32 × Nat) ⊕ (jTV × Nat) :=
  if lim ≤ p then .inl (2, p)
  else if b p = 0 then .inr (.inl (), p + 1)
  else if b p = 2 then (match num9 (Bn b) lim (p + 1) with
    | none => .inl (2, p + 1)
    | some (v, p1) => .inr (.inr (.inl v), p1))
  else if 5 < b p then .inl (6, p)
  else if b p = 1 then .inr (.inr (.inr []), p + 1)
  else (match cnt (Bn b) lim (p + 1) with
    | none => .inl (2, p + 1)
    | some (n, p1) => if b p = 4 then (match nls b lim n p1 with
        | .inl e => .inl e
        | .inr (ls, p2) => .inr (.inr (.inr ls), p2))
      else if lim - p1 < n then .inl (2, p + 1)
      else if b p = 3 then (match us b (p1 + n) n p1 with
        | .inl e => .inl e
        | .inr ls => .inr (.inr (.inr ls), p1 + n))
      else .inr (.inr (.inr (bls b n p1)), p1 + n))
theorem us_len {b : Nat → Nat} {stop : Nat} : ∀ {k p : Nat} {ls : List Nat}, us b stop k p = .inr ls → p ≤ stop → ls.length ≤ stop - p := by
  intro k
  induction k with
  | zero => intro p ls h _; cases h; simp
  | succ k ih =>
    intro p ls h hp
    unfold us at h
    split at h
    · cases h; simp
    · split at h
      · cases h
      · rename_i x m e
        have h1 := u8_ok e (by omega)
        split at h
        · cases h
        · rename_i ls2 e2
          cases h
          have h2 := ih e2 (by omega)
          simp only [List.length_cons]
          omega
theorem nls_len {b : Nat → Nat} {lim : Nat} : ∀ {k p p' : Nat} {ls : List Nat}, nls b lim k p = .inr (ls, p') → ls.length = k ∧ p + k ≤ p' ∧ (p ≤ lim → p' ≤ lim) := by
  intro k
  induction k with
  | zero => intro p p' ls h; cases h; exact ⟨rfl, Nat.le_refl _, fun h => h⟩
  | succ k ih =>
    intro p p' ls h
    unfold nls at h
    split at h
    · cases h
    · rename_i v p1 e
      have h1 := num9_pos e
      split at h
      · cases h
      · rename_i ls2 p2 e2
        cases h
        have h2 := ih e2
        exact ⟨by simp only [List.length_cons]; omega, by omega, fun _ => h2.2.2 h1.2⟩
theorem bls_len {b : Nat → Nat} : ∀ k p, (bls b k p).length = k := by
  intro k
  induction k with
  | zero => intro p; rfl
  | succ k ih => intro p; unfold bls; simp [ih]
theorem rdX_pos {b : Nat → Nat} {lim p p' : Nat} {tv : jTV} (h : rdX b lim p = .inr (tv, p')) : p < p' ∧ p' ≤ lim ∧ ∀ ls, tv = .inr (.inr ls) → ls.length + p + 1 ≤ p' := by
  unfold rdX at h
  split at h
  · cases h
  · split at h
    · cases h; exact ⟨by omega, by omega, fun ls e => by cases e⟩
    · split at h
      · split at h
        · cases h
        · rename_i v p1 e
          have h1 := num9_pos e
          cases h
          exact ⟨by omega, by omega, fun ls e => by cases e⟩
      · split at h
        · cases h
        · split at h
          · cases h; exact ⟨by omega, by omega, fun ls e => by cases e; simp⟩
          · split at h
            · cases h
            · rename_i n p1 e
              have h1 := cnt_lt e
              split at h
              · split at h
                · cases h
                · rename_i ls p2 e2
                  have h2 := nls_len e2
                  cases h
                  exact ⟨by omega, by omega, fun ls2 e3 => by cases e3; omega⟩
              · split at h
                · cases h
                · split at h
                  · split at h
                    · cases h
                    · rename_i ls e2
                      have h2 := us_len e2 (by omega)
                      cases h
                      exact ⟨by omega, by omega, fun ls2 e3 => by cases e3; omega⟩
                  · cases h
                    exact ⟨by omega, by omega, fun ls2 e3 => by cases e3; rw [bls_len]; omega⟩
/-- a plain value of the types 2 to 9 -/
def rdP (b : Nat → Nat) (lim ty p : Nat) : Option (Int64 × Nat) :=
  if ty = 2 then (if lim ≤ p then none else some (if b p = 0 then 0 else 1, p + 1))
  else if ty = 3 then (if lim ≤ p then none else some ((nI (b p)).toInt8.toInt32.toInt64, p + 1))
  else if ty = 8 then (if lim < p + 4 then none else some (fx (Bn b) p 4, p + 4))
  else if ty = 9 then (if lim < p + 8 then none else some (fx (Bn b) p 8, p + 8))
  else (match num9 (Bn b) lim p with
    | none => none
    | some (v, p1) => some (if ty = 4 then v.toInt32.toInt16.toInt32.toInt64 else if ty = 5 then (v.toInt32.toUInt32 % 65536).toInt32.toInt64 else if ty = 6 then v.toInt32.toInt64 else v, p1))
theorem rdP_pos {b : Nat → Nat} {lim ty p p' : Nat} {v : Int64} (h : rdP b lim ty p = some (v, p')) : p < p' ∧ p' ≤ lim := by
  unfold rdP at h
  split at h
  · split at h
    · cases h
    · cases h; omega
  · split at h
    · split at h
      · cases h
      · cases h; omega
    · split at h
      · split at h
        · cases h
        · cases h; omega
      · split at h
        · split at h
          · cases h
          · cases h; omega
        · split at h
          · cases h
          · rename_i w q e
            have h1 := num9_pos e
            cases h
            omega
/-- one value behind the other -/
def rvs (f : Nat → Nat → Nat → Nat → (Int32 × Nat) ⊕ (Nat × Nat)) : List (Nat × Nat) → Nat → Nat → (Int32 × Nat) ⊕ (Nat × Nat)
  | [], p, n => .inr (p, n)
  | (ty, fl) :: js, p, n => (match f ty fl p n with
    | .inl e => .inl e
    | .inr (p1, n1) => rvs f js p1 n1)
abbrev fjs (fs : List jFd) : List (Nat × Nat) := fs.map (fun y => (y.2.1, y.2.2))
/-- a value of type ty at p, as node n: a fault, or where it ends and the next node; h: how deep it may be -/
def rv (τ : jTT) (b : Nat → Nat) (chk : Bool) (lim : Nat) : Nat → Nat → Nat → Nat → Nat → (Int32 × Nat) ⊕ (Nat × Nat)
  | 0, _, _, p, _ => .inl (8, p)
  | h + 1, ty, fl, p, n => if chk = true ∧ 1200 < n then .inl (8, p)
    else if 2 ≤ fl then (match cnt (Bn b) lim p with
      | none => .inl (2, p)
      | some (len, p1) => rvs (rv τ b chk lim h) (List.replicate len (ty, fl % 2)) p1 (n + 1))
    else if fl = 1 then (match num9 (Bn b) lim p with
      | none => .inl (2, p)
      | some (_, p1) => .inr (p1, n + 1))
    else if ty = 10 then (match rdX b lim p with
      | .inl e => .inl e
      | .inr (_, p1) => .inr (p1, n + 1))
    else if ty < 10 then (match rdP b lim ty p with
      | none => .inl (2, p)
      | some (_, p1) => .inr (p1, n + 1))
    else (match tix τ ty with
      | none => .inr (p, n + 1)
      | some t => (match τ[t]? with
        | none => .inr (p, n + 1)
        | some x => rvs (rv τ b chk lim h) (fjs x.2.2.2) p (n + 1)))
/-- kinds, bits, refs, ends, letters -/
abbrev jVA : Type := (Nat → Int32) × (Nat → Int64) × (Nat → Int32) × (Nat → Int32) × (Nat → Int32)
def DS (D : Nat → Nat → Nat → Nat → Nat → Nat → Nat → Nat → Prop) : List (Nat × Nat) → Nat → Nat → Nat → Nat → Nat → Nat → Prop
  | [], p, n, l, p', n', l' => p' = p ∧ n' = n ∧ l' = l
  | (ty, fl) :: js, p, n, l, p', n', l' => ∃ p1 n1 l1, D ty fl p n l p1 n1 l1 ∧ DS D js p1 n1 l1 p' n' l'
/-- what a text's node holds -/
def DX (A : jVA) (n l l' : Nat) : jTV → Prop
  | .inl _ => A.1 n = 1 ∧ A.2.1 n = 0 ∧ l' = l
  | .inr (.inl v) => A.1 n = 13 ∧ A.2.1 n = v ∧ A.2.2.1 n = 10 ∧ l' = l
  | .inr (.inr ls) => A.1 n = 10 ∧ A.2.1 n = lN ls.length ∧ A.2.2.1 n = nI l ∧ l' = l + ls.length ∧ ∀ (i x : Nat), ls[i]? = some x → A.2.2.2.2 (l + i) = nI x
/-- the value of type ty at p..p' lies at the nodes n..n', its letters at l..l' -/
def DV (τ : jTT) (b : Nat → Nat) (lim : Nat) (A : jVA) : Nat → Nat → Nat → Nat → Nat → Nat → Nat → Nat → Nat → Prop
  | 0, _, _, _, _, _, _, _, _ => False
  | h + 1, ty, fl, p, n, l, p', n', l' => A.2.2.2.1 n = nI n' ∧ n < n' ∧ n' ≤ 1201 ∧
      ((2 ≤ fl ∧ ∃ len p1, cnt (Bn b) lim p = some (len, p1) ∧ A.1 n = 12 ∧ A.2.1 n = lN len ∧ DS (DV τ b lim A h) (List.replicate len (ty, fl % 2)) p1 (n + 1) l p' n' l')
      ∨ (fl = 1 ∧ n' = n + 1 ∧ l' = l ∧ ∃ v, num9 (Bn b) lim p = some (v, p') ∧ A.1 n = 13 ∧ A.2.1 n = v ∧ A.2.2.1 n = nI ty)
      ∨ (fl = 0 ∧ ty = 10 ∧ n' = n + 1 ∧ ∃ tv, rdX b lim p = .inr (tv, p') ∧ DX A n l l' tv)
      ∨ (fl = 0 ∧ 2 ≤ ty ∧ ty < 10 ∧ n' = n + 1 ∧ l' = l ∧ ∃ v, rdP b lim ty p = some (v, p') ∧ A.1 n = nI ty ∧ A.2.1 n = v)
      ∨ (fl = 0 ∧ 10 < ty ∧ ∃ t x, tix τ ty = some t ∧ τ[t]? = some x ∧ A.1 n = 11 ∧ A.2.1 n = lN x.2.1 ∧ A.2.2.1 n = nI t ∧ DS (DV τ b lim A h) (fjs x.2.2.2) p (n + 1) l p' n' l'))
/-- the class's Values at v -/
def vaG (v : Nat) (size lc : Int32) : Nat → Value := fun k => match k with
  | 0 => .int size
  | 1 => .ref (v + 1)
  | 2 => .ref (v + 2)
  | 3 => .ref (v + 3)
  | 4 => .ref (v + 4)
  | 5 => .int lc
  | 6 => .ref (v + 5)
  | _ => .null
abbrev vaC (v : Nat) (size lc : Int32) : am_C := ob 8 7 (vaG v size lc)
theorem vaG_0 {v : Nat} {size lc z : Int32} : va_up (vaG v size lc) 0 (.int z) = vaG v z lc := by
  funext k
  match k with
  | 0 => rfl
  | 1 => rfl
  | 2 => rfl
  | 3 => rfl
  | 4 => rfl
  | 5 => rfl
  | 6 => rfl
  | k + 7 => simp [va_up, vaG]
theorem vaG_5 {v : Nat} {size lc z : Int32} : va_up (vaG v size lc) 5 (.int z) = vaG v size z := by
  funext k
  match k with
  | 0 => rfl
  | 1 => rfl
  | 2 => rfl
  | 3 => rfl
  | 4 => rfl
  | 5 => rfl
  | 6 => rfl
  | k + 7 => simp [va_up, vaG]
def vS (S : am_S) (v n l : Nat) (A : jVA) : Prop := am_get S v = some (vaC v (nI n) (nI l)) ∧ am_get S (v + 1) = some (iA 1201 A.1) ∧ am_get S (v + 2) = some (lA 1201 A.2.1) ∧ am_get S (v + 3) = some (iA 1201 A.2.2.1) ∧ am_get S (v + 4) = some (iA 1201 A.2.2.2.1) ∧ am_get S (v + 5) = some (cA 960 A.2.2.2.2) ∧ 1 ≤ n ∧ A.1 0 = 1 ∧ A.2.1 0 = 0
/-- the nodes below n and the letters below l are the same -/
def agr (A A' : jVA) (n l : Nat) : Prop := (∀ i, i < n → A'.1 i = A.1 i ∧ A'.2.1 i = A.2.1 i ∧ A'.2.2.1 i = A.2.2.1 i ∧ A'.2.2.2.1 i = A.2.2.2.1 i) ∧ ∀ i, i < l → A'.2.2.2.2 i = A.2.2.2.2 i
theorem agr_refl (A : jVA) (n l : Nat) : agr A A n l := ⟨fun _ _ => ⟨rfl, rfl, rfl, rfl⟩, fun _ _ => rfl⟩
theorem agr_trans {A B C : jVA} {n l n' l' : Nat} (h : agr A B n l) (h2 : agr B C n' l') (hn : n ≤ n') (hl : l ≤ l') : agr A C n l := by
  refine ⟨fun i hi => ?_, fun i hi => ?_⟩
  · obtain ⟨a1, a2, a3, a4⟩ := h.1 i hi
    obtain ⟨b1, b2, b3, b4⟩ := h2.1 i (by omega)
    exact ⟨b1.trans a1, b2.trans a2, b3.trans a3, b4.trans a4⟩
  · exact (h2.2 i (by omega)).trans (h.2 i hi)
theorem vS_fr {js : List Nat} {S T : am_S} {v n l : Nat} {A : jVA} (h : vS S v n l A) (hf : fr js S T) (hj : ∀ j, j ∈ js → j < v ∨ v + 6 ≤ j) : vS T v n l A := by
  obtain ⟨h0, h1, h2, h3, h4, h5, h6⟩ := h
  have nm : ∀ q, q < 6 → v + q ∉ js := fun q hq h9 => by have := hj _ h9; omega
  exact ⟨by rw [fr_get hf (j := v) (nm 0 (by omega))]; exact h0, by rw [fr_get hf (nm 1 (by omega))]; exact h1, by rw [fr_get hf (nm 2 (by omega))]; exact h2, by rw [fr_get hf (nm 3 (by omega))]; exact h3, by rw [fr_get hf (nm 4 (by omega))]; exact h4, by rw [fr_get hf (nm 5 (by omega))]; exact h5, h6⟩
/-- a description holds of other arrays that are the same there -/
theorem DX_agr {A A' : jVA} {n l l' : Nat} {tv : jTV} (h : DX A n l l' tv) (ha : agr A A' (n + 1) l') : DX A' n l l' tv := by
  obtain ⟨a1, a2, a3, a4⟩ := ha.1 n (by omega)
  match tv with
  | .inl _ => obtain ⟨h1, h2, h3⟩ := h; exact ⟨by rw [a1]; exact h1, by rw [a2]; exact h2, h3⟩
  | .inr (.inl v) => obtain ⟨h1, h2, h3, h4⟩ := h; exact ⟨by rw [a1]; exact h1, by rw [a2]; exact h2, by rw [a3]; exact h3, h4⟩
  | .inr (.inr ls) =>
    obtain ⟨h1, h2, h3, h4, h5⟩ := h
    refine ⟨by rw [a1]; exact h1, by rw [a2]; exact h2, by rw [a3]; exact h3, h4, fun i x hx => ?_⟩
    have hi := (List.getElem?_eq_some_iff.mp hx).1
    rw [ha.2 (l + i) (by omega)]
    exact h5 i x hx
theorem DX_l {A : jVA} {n l l' : Nat} {tv : jTV} (h : DX A n l l' tv) : l ≤ l' := by
  match tv with
  | .inl _ => have := h.2.2; omega
  | .inr (.inl v) => have := h.2.2.2; omega
  | .inr (.inr ls) => have := h.2.2.2.1; omega
theorem DS_le {D : Nat → Nat → Nat → Nat → Nat → Nat → Nat → Nat → Prop} (hD : ∀ ty fl p n l p' n' l', D ty fl p n l p' n' l' → n < n' ∧ l ≤ l') : ∀ {js : List (Nat × Nat)} {p n l p' n' l' : Nat}, DS D js p n l p' n' l' → n ≤ n' ∧ l ≤ l' := by
  intro js
  induction js with
  | nil => intro p n l p' n' l' h; obtain ⟨_, h2, h3⟩ := h; omega
  | cons j js ih =>
    intro p n l p' n' l' h
    obtain ⟨p1, n1, l1, h1, h2⟩ := h
    have h3 := hD _ _ _ _ _ _ _ _ h1
    have h4 := ih h2
    omega
theorem DV_le {τ : jTT} {b : Nat → Nat} {lim : Nat} {A : jVA} : ∀ (h : Nat) (ty fl p n l p' n' l' : Nat), DV τ b lim A h ty fl p n l p' n' l' → n < n' ∧ l ≤ l' := by
  intro h
  induction h with
  | zero => intro ty fl p n l p' n' l' h; exact h.elim
  | succ h ih =>
    intro ty fl p n l p' n' l' hd
    unfold DV at hd
    refine ⟨hd.2.1, ?_⟩
    rcases hd.2.2.2 with ⟨_, len, p1, _, _, _, h2⟩ | ⟨_, _, h2, _⟩ | ⟨_, _, _, tv, _, h2⟩ | ⟨_, _, _, _, h2, _⟩ | ⟨_, _, t, x, _, _, _, _, _, h2⟩
    · exact (DS_le ih h2).2
    · omega
    · exact DX_l h2
    · omega
    · exact (DS_le ih h2).2
theorem DS_agr {D D' : Nat → Nat → Nat → Nat → Nat → Nat → Nat → Nat → Prop} {N M : Nat} (hD : ∀ ty fl p n l p' n' l', D ty fl p n l p' n' l' → n < n' ∧ l ≤ l') (hh : ∀ ty fl p n l p' n' l', D ty fl p n l p' n' l' → n' ≤ N → l' ≤ M → D' ty fl p n l p' n' l') : ∀ {js : List (Nat × Nat)} {p n l p' n' l' : Nat}, DS D js p n l p' n' l' → n' ≤ N → l' ≤ M → DS D' js p n l p' n' l' := by
  intro js
  induction js with
  | nil => intro p n l p' n' l' h _ _; exact h
  | cons j js ih =>
    intro p n l p' n' l' h hN hM
    obtain ⟨p1, n1, l1, h1, h2⟩ := h
    have h4 := DS_le hD h2
    exact ⟨p1, n1, l1, hh _ _ _ _ _ _ _ _ h1 (by omega) (by omega), ih h2 hN hM⟩
theorem DV_agr {τ : jTT} {b : Nat → Nat} {lim N M : Nat} {A A' : jVA} (ha : agr A A' N M) : ∀ (h : Nat) (ty fl p n l p' n' l' : Nat), DV τ b lim A h ty fl p n l p' n' l' → n' ≤ N → l' ≤ M → DV τ b lim A' h ty fl p n l p' n' l' := by
  intro h
  induction h with
  | zero => intro ty fl p n l p' n' l' h; exact h.elim
  | succ h ih =>
    intro ty fl p n l p' n' l' hd hN hM
    unfold DV at hd ⊢
    obtain ⟨h1, h2, h3, h4⟩ := hd
    obtain ⟨a1, a2, a3, a4⟩ := ha.1 n (by omega)
    refine ⟨by rw [a4]; exact h1, h2, h3, ?_⟩
    rcases h4 with ⟨q1, len, p1, q2, q3, q4, q5⟩ | ⟨q1, q2, q3, v, q4, q5, q6, q7⟩ | ⟨q1, q2, q3, tv, q4, q5⟩ | ⟨q1, q2, q3, q4, q5, v, q6, q7, q8⟩ | ⟨q1, q2, t, x, q3, q4, q5, q6, q7, q8⟩
    · exact Or.inl ⟨q1, len, p1, q2, by rw [a1]; exact q3, by rw [a2]; exact q4, DS_agr (DV_le h) ih q5 hN hM⟩
    · exact Or.inr (Or.inl ⟨q1, q2, q3, v, q4, by rw [a1]; exact q5, by rw [a2]; exact q6, by rw [a3]; exact q7⟩)
    · refine Or.inr (Or.inr (Or.inl ⟨q1, q2, q3, tv, q4, DX_agr q5 ⟨fun i hi => ha.1 i (by omega), fun i hi => ha.2 i (by omega)⟩⟩))
    · exact Or.inr (Or.inr (Or.inr (Or.inl ⟨q1, q2, q3, q4, q5, v, q6, by rw [a1]; exact q7, by rw [a2]; exact q8⟩)))
    · exact Or.inr (Or.inr (Or.inr (Or.inr ⟨q1, q2, t, x, q3, q4, by rw [a1]; exact q5, by rw [a2]; exact q6, by rw [a3]; exact q7, DS_agr (DV_le h) ih q8 hN hM⟩)))
