/-- a method's words by their places -/
def am_mchk (k pc pi p1 p2 : Nat) : Bool := am_word pc (am_cw am_M1 k) && goodWord (am_cw am_M1 k) && am_word pi (.initialized (am_M1 k).1.cls) && decide ((am_M1 k).2.2.1 ≤ 40) && plainFor (am_M1 k).1 && decide ((am_M1 k).1.cls ≠ "java/lang/invoke/MethodHandle") && decide ((am_M1 k).1.cls ≠ "java/lang/invoke/VarHandle") &&
  (match am_kd k with
  | 0 => am_word p1 (.instanceMethod (am_M1 k).1) && am_word p2 (.selects (am_M1 k).1.cls (am_M1 k).1 (am_M1 k).1) && (am_M1 k).2.2.2.2.isEmpty
  | 1 => am_word p1 (.static (am_M1 k).1)
  | 2 => am_word p1 (.instanceMethod (am_M1 k).1) && decide ((am_M1 k).1.name = "<init>") && decide ((am_M1 k).2.2.2.1 = none) && (am_M1 k).2.2.2.2.isEmpty
  | _ => false)
theorem am_mchk_ok {k pc pi p1 p2 : Nat} (h : am_mchk k pc pi p1 p2 = true) : am_mok am_M1 am_kd k := by
  unfold am_mchk at h
  simp only [Bool.and_eq_true, decide_eq_true_eq] at h
  obtain ⟨⟨⟨⟨⟨⟨⟨h1, hg⟩, h2⟩, h3⟩, h4⟩, h5⟩, h6⟩, h7⟩ := h
  refine ⟨am_word_gw h1 hg, am_word_gw h2 rfl, h3, h4, ⟨h5, h6⟩, fun e0 => ?_, fun e0 => ?_, fun e0 => ?_⟩
  · rw [e0] at h7
    simp only [Bool.and_eq_true] at h7
    exact ⟨am_word_gw h7.1.1 rfl, am_word_gw h7.1.2 rfl, List.isEmpty_iff.mp h7.2⟩
  · rw [e0] at h7
    exact am_word_gw h7 rfl
  · rw [e0] at h7
    simp only [Bool.and_eq_true, decide_eq_true_eq] at h7
    exact ⟨am_word_gw h7.1.1.1 rfl, h7.1.1.2, h7.1.2, List.isEmpty_iff.mp h7.2⟩
