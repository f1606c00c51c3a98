/-! the handlers -/
def am_hB (k : Nat) (h : Nat × Nat × Nat × Nat × String × Int32) : Bool :=
  (decide (h.2.2.2.2.1 = am_exc 100) || decide (h.2.2.2.2.1 = am_exc 101) || decide (h.2.2.2.2.1 = am_exc 102)) && decide (h.2.2.2.1 ≠ 0) && decide (Cond.classLink (am_M1 k).1.cls h.2.2.2.1 h.2.2.2.2.1 ∈ am_gw) && decide (Cond.castable h.2.2.2.2.1 h.2.2.2.2.1 ∈ am_nw) && decide ((am_M1 k).2.2.2.1 = some .int) &&
  (match decode (am_M1 k).2.1 h.2.2.1 with
  | .ok (.astore_n j, 1) => decide ((j : Nat) < (am_M1 k).2.2.1) && (match decode (am_M1 k).2.1 (h.2.2.1 + 1) with
    | .ok (.iconst n, 1) => decide (Int32.ofInt n = h.2.2.2.2.2) && decide (decode (am_M1 k).2.1 (h.2.2.1 + 1 + 1) = .ok (.ireturn, 1))
    | _ => false)
  | .ok (.astore j, 2) => decide (j < (am_M1 k).2.2.1) && (match decode (am_M1 k).2.1 (h.2.2.1 + 2) with
    | .ok (.iconst n, 1) => decide (Int32.ofInt n = h.2.2.2.2.2) && decide (decode (am_M1 k).2.1 (h.2.2.1 + 2 + 1) = .ok (.ireturn, 1))
    | _ => false)
  | _ => false)
theorem am_hB_ok {k : Nat} (h : (am_M1 k).2.2.2.2.all (am_hB k) = true) : am_hok am_M1 k := by
  intro q hq
  have h1 := List.all_eq_true.mp h q hq
  unfold am_hB at h1
  simp only [Bool.and_eq_true, Bool.or_eq_true, decide_eq_true_eq] at h1
  obtain ⟨⟨⟨⟨⟨he, h2⟩, h3⟩, h4⟩, h5⟩, h6⟩ := h1
  refine ⟨?_, h2, h3, h4, h5, ?_⟩
  · rcases he with (he | he) | he
    · exact ⟨0, by decide, he⟩
    · exact ⟨1, by decide, he⟩
    · exact ⟨2, by decide, he⟩
  · split at h6
    · rename_i j hj
      simp only [Bool.and_eq_true, decide_eq_true_eq] at h6
      obtain ⟨hl, h6⟩ := h6
      split at h6
      · rename_i n hn
        simp only [Bool.and_eq_true, decide_eq_true_eq] at h6
        exact ⟨n, _, h6.1, Or.inl ⟨j, hj, rfl, hl⟩, hn, h6.2⟩
      · cases h6
    · rename_i j hj
      simp only [Bool.and_eq_true, decide_eq_true_eq] at h6
      obtain ⟨hl, h6⟩ := h6
      split at h6
      · rename_i n hn
        simp only [Bool.and_eq_true, decide_eq_true_eq] at h6
        exact ⟨n, _, h6.1, Or.inr ⟨j, hj, rfl, hl⟩, hn, h6.2⟩
      · cases h6
    · cases h6
theorem am_hk167 : (am_M1 167).2.2.2.2.all (am_hB 167) = true := by decide +kernel
theorem am_hk168 : (am_M1 168).2.2.2.2.all (am_hB 168) = true := by decide +kernel
theorem am_hk169 : (am_M1 169).2.2.2.2.all (am_hB 169) = true := by decide +kernel
theorem am_hk170 : (am_M1 170).2.2.2.2.all (am_hB 170) = true := by decide +kernel
theorem am_hk171 : (am_M1 171).2.2.2.2.all (am_hB 171) = true := by decide +kernel
theorem am_hk172 : (am_M1 172).2.2.2.2.all (am_hB 172) = true := by decide +kernel
theorem am_hk173 : (am_M1 173).2.2.2.2.all (am_hB 173) = true := by decide +kernel
theorem am_hk174 : (am_M1 174).2.2.2.2.all (am_hB 174) = true := by decide +kernel
theorem am_hk175 : (am_M1 175).2.2.2.2.all (am_hB 175) = true := by decide +kernel
set_option maxRecDepth 100000 in
theorem am_nohand : ∀ k, k < 177 → (k = 167 ∨ k = 168 ∨ k = 169 ∨ k = 170 ∨ k = 171 ∨ k = 172 ∨ k = 173 ∨ k = 174 ∨ k = 175) ∨ (am_M1 k).2.2.2.2 = [] := by decide +kernel
theorem am_Hok : ∀ k, am_hok am_M1 k := by
  intro k
  by_cases h167 : k = 167
  · subst h167; exact am_hB_ok am_hk167
  by_cases h168 : k = 168
  · subst h168; exact am_hB_ok am_hk168
  by_cases h169 : k = 169
  · subst h169; exact am_hB_ok am_hk169
  by_cases h170 : k = 170
  · subst h170; exact am_hB_ok am_hk170
  by_cases h171 : k = 171
  · subst h171; exact am_hB_ok am_hk171
  by_cases h172 : k = 172
  · subst h172; exact am_hB_ok am_hk172
  by_cases h173 : k = 173
  · subst h173; exact am_hB_ok am_hk173
  by_cases h174 : k = 174
  · subst h174; exact am_hB_ok am_hk174
  by_cases h175 : k = 175
  · subst h175; exact am_hB_ok am_hk175
  have hno : ∀ k : Nat, k ≠ 167 ∧ k ≠ 168 ∧ k ≠ 169 ∧ k ≠ 170 ∧ k ≠ 171 ∧ k ≠ 172 ∧ k ≠ 173 ∧ k ≠ 174 ∧ k ≠ 175 → (am_M1 k).2.2.2.2 = [] := by
    intro k hk
    by_cases hlt : k < 177
    · exact (am_nohand k hlt).resolve_left (by omega)
    · unfold am_M1
      rw [List.getElem?_eq_none (by rw [show am_ms.length = 177 by decide +kernel]; omega)]
      rfl
  intro q hq
  rw [hno k (by omega)] at hq
  cases hq
