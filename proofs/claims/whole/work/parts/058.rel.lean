/-! how a small heap, its values and locals lie in the machine's -/
/-- what does not change in a run: class numbers and slots, array classes, where the new cells begin, the script's cell, SIGNATURE's, the script -/
abbrev am_G : Type := va_G × (Nat → ClassId) × Nat × Nat × Nat × Nat × (Nat → Int32)
abbrev am_b0 (G : am_G) : Nat := G.2.2.1
abbrev am_X (G : am_G) : Nat × (Nat → Int32) := G.2.2.2.2.2
def am_A (G : am_G) : Nat → Prop := fun q => am_b0 G ≤ q
def am_ad (G : am_G) (i : Nat) : Nat := if i = 1000000 then G.2.2.2.1 else if i = 1000001 then G.2.2.2.2.1 else am_b0 G + i
def am_v (G : am_G) (v : Value) : Value := match v with
  | .ref i => .ref (am_ad G i)
  | x => x
def am_ra (G : am_G) (x : vp_A) : vp_A := match x with
  | (n, .inr (.inr (.inr (.inr f)))) => (n, .inr (.inr (.inr (.inr (fun j => (f j).map (am_ad G))))))
  | y => y
def am_e (G : am_G) (x : am_C) : va_E := match x with
  | .inl (t, a) => .inl (G.2.1 t, am_ra G a)
  | .inr (ci, fs) => .inr (ci, fs.map (am_v G))
def am_ws (G : am_G) (S : am_S) : va_W := (List.range S.1).map (fun k => (am_b0 G + k, am_e G (S.2.1 k)))
def am_tys (G : am_G) : List (ClassId × FieldType) := (List.range 6).map (fun t => (G.2.1 t, am_ty t))
theorem am_v_cat (G : am_G) (v : Value) : (am_v G v).category = v.category := by cases v <;> rfl
theorem am_v_cats (G : am_G) (l : List Value) : ((l.map (am_v G)).map fun v => v.category).sum = (l.map fun v => v.category).sum := by
  induction l with
  | nil => rfl
  | cons a t ih => simp only [List.map_cons, List.sum_cons, am_v_cat, ih]
theorem am_ws_at {G : am_G} {S : am_S} {a : Nat} (h : a < S.1) : (am_ws G S)[a]? = some (am_b0 G + a, am_e G (S.2.1 a)) := by
  simp [am_ws, h]
theorem am_ws_len (G : am_G) (S : am_S) : (am_ws G S).length = S.1 := by simp [am_ws]
theorem am_ws_inv {G : am_G} {S : am_S} {k : Nat} {q : Nat × va_E} (h : (am_ws G S)[k]? = some q) : k < S.1 ∧ q = (am_b0 G + k, am_e G (S.2.1 k)) := by
  have hk : k < (am_ws G S).length := (List.getElem?_eq_some_iff.mp h).1
  rw [am_ws_len] at hk
  rw [am_ws_at hk] at h
  exact ⟨hk, (Option.some.inj h).symm⟩
theorem am_ws_upd {G : am_G} {S : am_S} {a : Nat} (x : am_C) (h : a < S.1) : (am_ws G S).set a (am_b0 G + a, am_e G x) = am_ws G (am_upd S a x) := by
  apply List.ext_getElem?
  intro j
  rw [List.getElem?_set]
  by_cases hj : j < S.1
  · rw [am_ws_at (S := am_upd S a x) hj]
    by_cases e : a = j
    · subst e
      simp [am_ws_len, h, am_upd]
    · have e2 : ¬ j = a := fun q => e q.symm
      simp [e, am_ws_at hj, am_upd, e2]
  · have h1 : (am_ws G S)[j]? = none := List.getElem?_eq_none (by rw [am_ws_len]; omega)
    have h2 : (am_ws G (am_upd S a x))[j]? = none := List.getElem?_eq_none (by rw [am_ws_len]; show S.1 ≤ j; omega)
    have e : ¬ a = j := by omega
    rw [h2]
    simp [e, h1]
theorem am_ws_push {G : am_G} {S : am_S} (x : am_C) (n : Nat) : am_ws G S ++ [(am_b0 G + S.1, am_e G x)] = am_ws G (am_push S x n) := by
  apply List.ext_getElem?
  intro j
  by_cases hj : j < S.1
  · rw [List.getElem?_append_left (by rw [am_ws_len]; exact hj), am_ws_at hj, am_ws_at (S := am_push S x n) (show j < S.1 + 1 by omega)]
    have e : ¬ j = S.1 := by omega
    simp [am_push, e]
  · rw [List.getElem?_append_right (by rw [am_ws_len]; omega), am_ws_len]
    by_cases e : j = S.1
    · subst e
      rw [am_ws_at (S := am_push S x n) (show S.1 < S.1 + 1 by omega)]
      simp [am_push]
    · rw [List.getElem?_eq_none (by simp; omega), List.getElem?_eq_none (by rw [am_ws_len]; show S.1 + 1 ≤ j; omega)]
theorem am_ws_D (G : am_G) (S : am_S) : va_D (am_A G) (am_ws G S) := by
  refine ⟨fun i j p q hi hj e => ?_, fun k q hk => ?_⟩
  · obtain ⟨-, rfl⟩ := am_ws_inv hi
    obtain ⟨-, rfl⟩ := am_ws_inv hj
    have e' : am_b0 G + i = am_b0 G + j := e
    omega
  · obtain ⟨-, rfl⟩ := am_ws_inv hk
    show am_b0 G ≤ am_b0 G + k
    omega
theorem am_ad_low {G : am_G} {a : Nat} (h : a < 1000000) : am_ad G a = am_b0 G + a := by
  unfold am_ad
  rw [if_neg (by omega), if_neg (by omega)]
/-- the small heap lies in H -/
def am_world (G : am_G) (S : am_S) (H : Heap) : Prop := va_P G.1 vwCl (am_ws G S) H ∧ S.1 ≤ 1000000
def am_env (G : am_G) (s : State) : Prop :=
  va_K G.1 vwCl (am_tys G) s ∧ vx_Zq Bundle.tN "UNASSIGNED_STACK" Bundle.steD (am_A G) s s.heap ∧ vx_Zq Bundle.tN "SUPPRESSED_SENTINEL" Bundle.listD (am_A G) s s.heap ∧
  (va_X G.2.2.2.1 (am_X G).1 (am_X G).2 s s.heap ∧ G.2.2.2.1 < am_b0 G) ∧
  (va_Z RX1 "SIGNATURE" "[I" (.ref G.2.2.2.2.1) (am_A G) s s.heap ∧ va_T .int G.2.2.2.2.1 5 (fun j => .int (am_sig j)) (am_A G) s s.heap ∧ G.2.2.2.2.1 < am_b0 G) ∧
  (∀ w ∈ am_nw, va_Nw w s) ∧ (va_AO RX1 s ∧ va_AO RX7 s) ∧ am_b0 G ≤ s.heap.size ∧
  (∀ a b : Nat, a < 3 → b < 3 → a ≠ b → va_Nc (am_exc (100 + a)) (am_exc (100 + b)) s)
/-- the locals: what the small list tells is held -/
def am_ls (G : am_G) (ls : Array Slot) (n : Nat) (L : am_L) : Prop := ls.size = n ∧ lv_wf ls ∧ L.length = n ∧ ∀ (i : Nat) (v : Value), L[i]? = some (some v) → ls[i]? = some (.val (am_v G v))
def am_pairs (G : am_G) (L : am_L) : List (Nat × Value) := (List.range L.length).filterMap (fun i => match L[i]? with
  | some (some v) => some (i, am_v G v)
  | _ => none)
theorem am_pairs_mem {G : am_G} {L : am_L} {q : Nat × Value} : q ∈ am_pairs G L ↔ ∃ v, L[q.1]? = some (some v) ∧ q.2 = am_v G v := by
  unfold am_pairs
  rw [List.mem_filterMap]
  constructor
  · rintro ⟨i, -, hi⟩
    split at hi
    · rename_i v hv
      cases hi
      exact ⟨v, hv, rfl⟩
    · cases hi
  · rintro ⟨v, hv, e⟩
    refine ⟨q.1, List.mem_range.mpr ((List.getElem?_eq_some_iff.mp hv).1), ?_⟩
    rw [hv]
    simp only [← e]
theorem am_ls_has {G : am_G} {ls : Array Slot} {n : Nat} {L : am_L} (h : am_ls G ls n L) : lv_has ls n (am_pairs G L) := by
  refine ⟨h.1, h.2.1, fun q hq => ?_⟩
  obtain ⟨v, hv, e⟩ := am_pairs_mem.mp hq
  rw [e]
  exact h.2.2.2 _ _ hv
theorem am_kill_len (L : am_L) (j : Nat) : (am_kill L j).length = L.length := by
  unfold am_kill
  split
  · rfl
  · split
    · split <;> simp
    · rfl
theorem am_set_len (L : am_L) (j : Nat) (v : Value) : (am_set L j v).length = L.length := by
  unfold am_set
  split <;> simp [am_kill_len]
theorem am_kill_other {L : am_L} {j i : Nat} {w : Value} (h : (am_kill L j)[i]? = some (some w)) : L[i]? = some (some w) ∧ ¬ (i + 1 = j ∧ w.category = 2) := by
  cases j with
  | zero => exact ⟨h, fun e => by omega⟩
  | succ m =>
    unfold am_kill at h
    dsimp only at h
    split at h
    · rename_i u hu
      split at h
      · rename_i hcu
        rw [List.getElem?_set] at h
        split at h
        · split at h <;> cases h
        · rename_i hne
          exact ⟨h, fun e => hne (by omega)⟩
      · rename_i hcu
        refine ⟨h, fun e => ?_⟩
        have e1 : i = m := by omega
        subst e1
        rw [hu] at h
        cases h
        exact hcu e.2
    · rename_i hno
      refine ⟨h, fun e => ?_⟩
      have e1 : i = m := by omega
      subst e1
      exact hno _ h
theorem am_set_self {L : am_L} {j : Nat} {v w : Value} (h : (am_set L j v)[j]? = some (some w)) : w = v := by
  unfold am_set at h
  split at h
  · rw [List.getElem?_set, if_neg (by omega), List.getElem?_set, if_pos rfl] at h
    split at h
    · exact (Option.some.inj (Option.some.inj h)).symm
    · exact absurd h (by simp)
  · rw [List.getElem?_set, if_pos rfl] at h
    split at h
    · exact (Option.some.inj (Option.some.inj h)).symm
    · exact absurd h (by simp)
/-- a place that a store leaves as it was -/
theorem am_set_other {L : am_L} {j i : Nat} {v w : Value} (h : (am_set L j v)[i]? = some (some w)) (hi : ¬ i = j) : L[i]? = some (some w) ∧ ¬ (i + 1 = j ∧ w.category = 2) ∧ ¬ (i = j + 1 ∧ v.category = 2) := by
  unfold am_set at h
  split at h
  · rw [List.getElem?_set] at h
    split at h
    · split at h
      · exact absurd h (by simp)
      · exact absurd h (by simp)
    · rename_i hne
      rw [List.getElem?_set, if_neg (fun e => hi e.symm)] at h
      obtain ⟨h1, h2⟩ := am_kill_other h
      exact ⟨h1, h2, fun e => hne e.1.symm⟩
  · rename_i hc
    rw [List.getElem?_set, if_neg (fun e => hi e.symm)] at h
    obtain ⟨h1, h2⟩ := am_kill_other h
    exact ⟨h1, h2, fun e => hc e.2⟩
theorem am_ls_set1 {G : am_G} {ls ls' : Array Slot} {n j : Nat} {L : am_L} {v : Value} (h : am_ls G ls n L) (hc : v.category = 1)
    (h' : lv_has ls' n ((j, am_v G v) :: (am_pairs G L).filter (fun q => !(q.1 == j) && !(q.1 + 1 == j && q.2.category == 2)))) : am_ls G ls' n (am_set L j v) := by
  refine ⟨h'.1, h'.2.1, by rw [am_set_len]; exact h.2.2.1, fun i w hw => ?_⟩
  by_cases hi : i = j
  · subst hi
    have hv : w = v := am_set_self hw
    rw [hv]
    exact h'.2.2 _ List.mem_cons_self
  · obtain ⟨h1, h2, -⟩ := am_set_other hw hi
    refine h'.2.2 (i, am_v G w) (List.mem_cons_of_mem _ (List.mem_filter.mpr ⟨am_pairs_mem.mpr ⟨w, h1, rfl⟩, ?_⟩))
    simp only [Bool.and_eq_true, Bool.not_eq_true', beq_eq_false_iff_ne, ne_eq, Bool.and_eq_false_iff, am_v_cat]
    refine ⟨hi, ?_⟩
    by_cases e : i + 1 = j
    · exact Or.inr fun e2 => h2 ⟨e, e2⟩
    · exact Or.inl e
theorem am_ls_set2 {G : am_G} {ls ls' : Array Slot} {n j : Nat} {L : am_L} {v : Value} (h : am_ls G ls n L) (hc : v.category = 2)
    (h' : lv_has ls' n ((j, am_v G v) :: (am_pairs G L).filter (fun q => !(q.1 == j) && (!(q.1 == j + 1) && !(q.1 + 1 == j && q.2.category == 2))))) : am_ls G ls' n (am_set L j v) := by
  refine ⟨h'.1, h'.2.1, by rw [am_set_len]; exact h.2.2.1, fun i w hw => ?_⟩
  by_cases hi : i = j
  · subst hi
    have hv : w = v := am_set_self hw
    rw [hv]
    exact h'.2.2 _ List.mem_cons_self
  · obtain ⟨h1, h2, h3⟩ := am_set_other hw hi
    refine h'.2.2 (i, am_v G w) (List.mem_cons_of_mem _ (List.mem_filter.mpr ⟨am_pairs_mem.mpr ⟨w, h1, rfl⟩, ?_⟩))
    simp only [Bool.and_eq_true, Bool.not_eq_true', beq_eq_false_iff_ne, ne_eq, Bool.and_eq_false_iff, am_v_cat]
    refine ⟨hi, fun e => h3 ⟨e, hc⟩, ?_⟩
    by_cases e : i + 1 = j
    · exact Or.inr fun e2 => h2 ⟨e, e2⟩
    · exact Or.inl e
