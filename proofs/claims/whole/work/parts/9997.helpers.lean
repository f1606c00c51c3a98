/-! THE LAW'S HELPERS: a call of the class, what it throws as a number -/
def RtL (Q : am_R → Prop) (g : Nat → Int64) (es : List (String × Int32)) : am_R → Prop := fun r => match r with
  | (.inl (some (.long x)), T) => am_get T 440 = some (lA 1 g) ∧ ∀ T', fr [440] T T' → am_get T' 440 = some (lA 1 (vp_updL g 0 x)) → Q (.inl (some (.int 0)), T')
  | (.inr E, T) => ∃ c, (E, c) ∈ es ∧ Q (.inl (some (.int c)), T)
  | _ => False
def RtI (Q : am_R → Prop) (g : Nat → Int64) (es : List (String × Int32)) : am_R → Prop := fun r => match r with
  | (.inl (some (.int x)), T) => am_get T 440 = some (lA 1 g) ∧ ∀ T', fr [440] T T' → am_get T' 440 = some (lA 1 (vp_updL g 0 x.toInt64)) → Q (.inl (some (.int 0)), T')
  | (.inr E, T) => ∃ c, (E, c) ∈ es ∧ Q (.inl (some (.int c)), T)
  | _ => False
section HELP
variable {X : Nat × (Nat → Int32)} {d : Nat} {Q : am_R → Prop} {S : am_S} {g : Nat → Int64} {rec sp : Nat} {cc mp : Int32}
theorem h_167 (h0 : am_get S 0 = some (frC rec sp cc mp)) (hev : ev X d 74 [.ref 0] S (RtI Q g [(IAE, 1)])) : ev X (d + 1) 167 [.ref 0, .ref 440] S Q := by
  refine ev_wp (L0 := [some (.ref 0), some (.ref 440), none]) (Nat.le_of_ble_eq_true rfl) rfl ?_
  iterate 3 refine wp_step rfl rfl ?_
  refine wp_call rfl rfl (by decide) rfl (recv_ok h0 rfl) hev (fun v T hq => ?_) (fun E T hq => ?_)
  · obtain ⟨x, rfl⟩ : ∃ x, v = some (.int x) := by
      cases v with
      | none => exact hq.elim
      | some v =>
        cases v <;> first | exact ⟨_, rfl⟩ | exact hq.elim
    obtain ⟨ho, hq⟩ := hq
    refine wp_step rfl rfl ?_
    refine wp_last rfl ho (by decide) ?_
    show wp X d 167 8 [some (.ref 0), some (.ref 440), none] [] (am_upd T 440 (lA 1 (vp_updL g 0 x.toInt64))) Q
    have h1 : am_get (am_upd T 440 (lA 1 (vp_updL g 0 x.toInt64))) 440 = some (lA 1 (vp_updL g 0 x.toInt64)) := am_get_self ho
    have hf : fr [440] T (am_upd T 440 (lA 1 (vp_updL g 0 x.toInt64))) := fr_up (by simp)
    generalize am_upd T 440 (lA 1 (vp_updL g 0 x.toInt64)) = T2 at h1 hf ⊢
    iterate 2 refine wp_step rfl rfl ?_
    refine wp_iret rfl rfl rfl (hq T2 hf h1)
  · obtain ⟨c, hc, hq⟩ := hq
    simp only [List.mem_cons, List.not_mem_nil, or_false, Prod.mk.injEq] at hc
    refine Or.inr ⟨c, ?_, hq⟩
    obtain ⟨rfl, rfl⟩ := hc
    rfl
theorem h_168 {p0 p1 : Int32} (h0 : am_get S 0 = some (frC rec sp cc mp)) (hev : ev X d 77 [.ref 0, .int p0, .int p1] S (RtL Q g [(OOB, 1), (IAE, 2)])) : ev X (d + 1) 168 [.ref 0, .int p0, .int p1, .ref 440] S Q := by
  refine ev_wp (L0 := [some (.ref 0), some (.int p0), some (.int p1), some (.ref 440), none]) (Nat.le_of_ble_eq_true rfl) rfl ?_
  iterate 5 refine wp_step rfl rfl ?_
  refine wp_call rfl rfl (by decide) rfl (recv_ok h0 rfl) hev (fun v T hq => ?_) (fun E T hq => ?_)
  · obtain ⟨x, rfl⟩ : ∃ x, v = some (.long x) := by
      cases v with
      | none => exact hq.elim
      | some v =>
        cases v <;> first | exact ⟨_, rfl⟩ | exact hq.elim
    obtain ⟨ho, hq⟩ := hq
    refine wp_last rfl ho (by decide) ?_
    show wp X d 168 9 [some (.ref 0), some (.int p0), some (.int p1), some (.ref 440), none] [] (am_upd T 440 (lA 1 (vp_updL g 0 x))) Q
    have h1 : am_get (am_upd T 440 (lA 1 (vp_updL g 0 x))) 440 = some (lA 1 (vp_updL g 0 x)) := am_get_self ho
    have hf : fr [440] T (am_upd T 440 (lA 1 (vp_updL g 0 x))) := fr_up (by simp)
    generalize am_upd T 440 (lA 1 (vp_updL g 0 x)) = T2 at h1 hf ⊢
    iterate 2 refine wp_step rfl rfl ?_
    refine wp_iret rfl rfl rfl (hq T2 hf h1)
  · obtain ⟨c, hc, hq⟩ := hq
    simp only [List.mem_cons, List.not_mem_nil, or_false, Prod.mk.injEq] at hc
    refine Or.inr ⟨c, ?_, hq⟩
    rcases hc with ⟨rfl, rfl⟩ | ⟨rfl, rfl⟩ <;> rfl
theorem h_169 {p0 p1 : Int32} (h0 : am_get S 0 = some (frC rec sp cc mp)) (hev : ev X d 78 [.ref 0, .int p0, .int p1] S (RtI Q g [(OOB, 1)])) : ev X (d + 1) 169 [.ref 0, .int p0, .int p1, .ref 440] S Q := by
  refine ev_wp (L0 := [some (.ref 0), some (.int p0), some (.int p1), some (.ref 440), none]) (Nat.le_of_ble_eq_true rfl) rfl ?_
  iterate 5 refine wp_step rfl rfl ?_
  refine wp_call rfl rfl (by decide) rfl (recv_ok h0 rfl) hev (fun v T hq => ?_) (fun E T hq => ?_)
  · obtain ⟨x, rfl⟩ : ∃ x, v = some (.int x) := by
      cases v with
      | none => exact hq.elim
      | some v =>
        cases v <;> first | exact ⟨_, rfl⟩ | exact hq.elim
    obtain ⟨ho, hq⟩ := hq
    refine wp_step rfl rfl ?_
    refine wp_last rfl ho (by decide) ?_
    show wp X d 169 10 [some (.ref 0), some (.int p0), some (.int p1), some (.ref 440), none] [] (am_upd T 440 (lA 1 (vp_updL g 0 x.toInt64))) Q
    have h1 : am_get (am_upd T 440 (lA 1 (vp_updL g 0 x.toInt64))) 440 = some (lA 1 (vp_updL g 0 x.toInt64)) := am_get_self ho
    have hf : fr [440] T (am_upd T 440 (lA 1 (vp_updL g 0 x.toInt64))) := fr_up (by simp)
    generalize am_upd T 440 (lA 1 (vp_updL g 0 x.toInt64)) = T2 at h1 hf ⊢
    iterate 2 refine wp_step rfl rfl ?_
    refine wp_iret rfl rfl rfl (hq T2 hf h1)
  · obtain ⟨c, hc, hq⟩ := hq
    simp only [List.mem_cons, List.not_mem_nil, or_false, Prod.mk.injEq] at hc
    refine Or.inr ⟨c, ?_, hq⟩
    obtain ⟨rfl, rfl⟩ := hc
    rfl
theorem h_170 {p0 p1 : Int32} (h0 : am_get S 0 = some (frC rec sp cc mp)) (hev : ev X d 79 [.ref 0, .int p0, .int p1] S (RtL Q g [(OOB, 1), (NSE, 2)])) : ev X (d + 1) 170 [.ref 0, .int p0, .int p1, .ref 440] S Q := by
  refine ev_wp (L0 := [some (.ref 0), some (.int p0), some (.int p1), some (.ref 440), none]) (Nat.le_of_ble_eq_true rfl) rfl ?_
  iterate 5 refine wp_step rfl rfl ?_
  refine wp_call rfl rfl (by decide) rfl (recv_ok h0 rfl) hev (fun v T hq => ?_) (fun E T hq => ?_)
  · obtain ⟨x, rfl⟩ : ∃ x, v = some (.long x) := by
      cases v with
      | none => exact hq.elim
      | some v =>
        cases v <;> first | exact ⟨_, rfl⟩ | exact hq.elim
    obtain ⟨ho, hq⟩ := hq
    refine wp_last rfl ho (by decide) ?_
    show wp X d 170 9 [some (.ref 0), some (.int p0), some (.int p1), some (.ref 440), none] [] (am_upd T 440 (lA 1 (vp_updL g 0 x))) Q
    have h1 : am_get (am_upd T 440 (lA 1 (vp_updL g 0 x))) 440 = some (lA 1 (vp_updL g 0 x)) := am_get_self ho
    have hf : fr [440] T (am_upd T 440 (lA 1 (vp_updL g 0 x))) := fr_up (by simp)
    generalize am_upd T 440 (lA 1 (vp_updL g 0 x)) = T2 at h1 hf ⊢
    iterate 2 refine wp_step rfl rfl ?_
    refine wp_iret rfl rfl rfl (hq T2 hf h1)
  · obtain ⟨c, hc, hq⟩ := hq
    simp only [List.mem_cons, List.not_mem_nil, or_false, Prod.mk.injEq] at hc
    refine Or.inr ⟨c, ?_, hq⟩
    rcases hc with ⟨rfl, rfl⟩ | ⟨rfl, rfl⟩ <;> rfl
theorem h_171 {p0 p1 p2 : Int32} (h0 : am_get S 0 = some (frC rec sp cc mp)) (hev : ev X d 80 [.ref 0, .int p0, .int p1, .int p2] S (RtI Q g [(OOB, 1), (NSE, 2), (IAE, 3)])) : ev X (d + 1) 171 [.ref 0, .int p0, .int p1, .int p2, .ref 440] S Q := by
  refine ev_wp (L0 := [some (.ref 0), some (.int p0), some (.int p1), some (.int p2), some (.ref 440), none]) (Nat.le_of_ble_eq_true rfl) rfl ?_
  iterate 6 refine wp_step rfl rfl ?_
  refine wp_call rfl rfl (by decide) rfl (recv_ok h0 rfl) hev (fun v T hq => ?_) (fun E T hq => ?_)
  · obtain ⟨x, rfl⟩ : ∃ x, v = some (.int x) := by
      cases v with
      | none => exact hq.elim
      | some v =>
        cases v <;> first | exact ⟨_, rfl⟩ | exact hq.elim
    obtain ⟨ho, hq⟩ := hq
    refine wp_step rfl rfl ?_
    refine wp_last rfl ho (by decide) ?_
    show wp X d 171 12 [some (.ref 0), some (.int p0), some (.int p1), some (.int p2), some (.ref 440), none] [] (am_upd T 440 (lA 1 (vp_updL g 0 x.toInt64))) Q
    have h1 : am_get (am_upd T 440 (lA 1 (vp_updL g 0 x.toInt64))) 440 = some (lA 1 (vp_updL g 0 x.toInt64)) := am_get_self ho
    have hf : fr [440] T (am_upd T 440 (lA 1 (vp_updL g 0 x.toInt64))) := fr_up (by simp)
    generalize am_upd T 440 (lA 1 (vp_updL g 0 x.toInt64)) = T2 at h1 hf ⊢
    iterate 2 refine wp_step rfl rfl ?_
    refine wp_iret rfl rfl rfl (hq T2 hf h1)
  · obtain ⟨c, hc, hq⟩ := hq
    simp only [List.mem_cons, List.not_mem_nil, or_false, Prod.mk.injEq] at hc
    refine Or.inr ⟨c, ?_, hq⟩
    rcases hc with ⟨rfl, rfl⟩ | ⟨rfl, rfl⟩ | ⟨rfl, rfl⟩ <;> rfl
theorem h_172 {p0 : Int32} (h0 : am_get S 0 = some (frC rec sp cc mp)) (hev : ev X d 82 [.ref 0, .int p0] S (RtI Q g [(IAE, 1)])) : ev X (d + 1) 172 [.ref 0, .int p0, .ref 440] S Q := by
  refine ev_wp (L0 := [some (.ref 0), some (.int p0), some (.ref 440), none]) (Nat.le_of_ble_eq_true rfl) rfl ?_
  iterate 4 refine wp_step rfl rfl ?_
  refine wp_call rfl rfl (by decide) rfl (recv_ok h0 rfl) hev (fun v T hq => ?_) (fun E T hq => ?_)
  · obtain ⟨x, rfl⟩ : ∃ x, v = some (.int x) := by
      cases v with
      | none => exact hq.elim
      | some v =>
        cases v <;> first | exact ⟨_, rfl⟩ | exact hq.elim
    obtain ⟨ho, hq⟩ := hq
    refine wp_step rfl rfl ?_
    refine wp_last rfl ho (by decide) ?_
    show wp X d 172 9 [some (.ref 0), some (.int p0), some (.ref 440), none] [] (am_upd T 440 (lA 1 (vp_updL g 0 x.toInt64))) Q
    have h1 : am_get (am_upd T 440 (lA 1 (vp_updL g 0 x.toInt64))) 440 = some (lA 1 (vp_updL g 0 x.toInt64)) := am_get_self ho
    have hf : fr [440] T (am_upd T 440 (lA 1 (vp_updL g 0 x.toInt64))) := fr_up (by simp)
    generalize am_upd T 440 (lA 1 (vp_updL g 0 x.toInt64)) = T2 at h1 hf ⊢
    iterate 2 refine wp_step rfl rfl ?_
    refine wp_iret rfl rfl rfl (hq T2 hf h1)
  · obtain ⟨c, hc, hq⟩ := hq
    simp only [List.mem_cons, List.not_mem_nil, or_false, Prod.mk.injEq] at hc
    refine Or.inr ⟨c, ?_, hq⟩
    obtain ⟨rfl, rfl⟩ := hc
    rfl
theorem h_173 {p0 : Int32} (h0 : am_get S 0 = some (frC rec sp cc mp)) (hev : ev X d 84 [.ref 0, .int p0] S (RtI Q g [(OOB, 1)])) : ev X (d + 1) 173 [.ref 0, .int p0, .ref 440] S Q := by
  refine ev_wp (L0 := [some (.ref 0), some (.int p0), some (.ref 440), none]) (Nat.le_of_ble_eq_true rfl) rfl ?_
  iterate 4 refine wp_step rfl rfl ?_
  refine wp_call rfl rfl (by decide) rfl (recv_ok h0 rfl) hev (fun v T hq => ?_) (fun E T hq => ?_)
  · obtain ⟨x, rfl⟩ : ∃ x, v = some (.int x) := by
      cases v with
      | none => exact hq.elim
      | some v =>
        cases v <;> first | exact ⟨_, rfl⟩ | exact hq.elim
    obtain ⟨ho, hq⟩ := hq
    refine wp_step rfl rfl ?_
    refine wp_last rfl ho (by decide) ?_
    show wp X d 173 9 [some (.ref 0), some (.int p0), some (.ref 440), none] [] (am_upd T 440 (lA 1 (vp_updL g 0 x.toInt64))) Q
    have h1 : am_get (am_upd T 440 (lA 1 (vp_updL g 0 x.toInt64))) 440 = some (lA 1 (vp_updL g 0 x.toInt64)) := am_get_self ho
    have hf : fr [440] T (am_upd T 440 (lA 1 (vp_updL g 0 x.toInt64))) := fr_up (by simp)
    generalize am_upd T 440 (lA 1 (vp_updL g 0 x.toInt64)) = T2 at h1 hf ⊢
    iterate 2 refine wp_step rfl rfl ?_
    refine wp_iret rfl rfl rfl (hq T2 hf h1)
  · obtain ⟨c, hc, hq⟩ := hq
    simp only [List.mem_cons, List.not_mem_nil, or_false, Prod.mk.injEq] at hc
    refine Or.inr ⟨c, ?_, hq⟩
    obtain ⟨rfl, rfl⟩ := hc
    rfl
theorem h_174 {p0 p1 : Int32} (h0 : am_get S 0 = some (frC rec sp cc mp)) (hev : ev X d 85 [.ref 0, .int p0, .int p1] S (RtL Q g [(IAE, 1), (NSE, 2)])) : ev X (d + 1) 174 [.ref 0, .int p0, .int p1, .ref 440] S Q := by
  refine ev_wp (L0 := [some (.ref 0), some (.int p0), some (.int p1), some (.ref 440), none]) (Nat.le_of_ble_eq_true rfl) rfl ?_
  iterate 5 refine wp_step rfl rfl ?_
  refine wp_call rfl rfl (by decide) rfl (recv_ok h0 rfl) hev (fun v T hq => ?_) (fun E T hq => ?_)
  · obtain ⟨x, rfl⟩ : ∃ x, v = some (.long x) := by
      cases v with
      | none => exact hq.elim
      | some v =>
        cases v <;> first | exact ⟨_, rfl⟩ | exact hq.elim
    obtain ⟨ho, hq⟩ := hq
    refine wp_last rfl ho (by decide) ?_
    show wp X d 174 9 [some (.ref 0), some (.int p0), some (.int p1), some (.ref 440), none] [] (am_upd T 440 (lA 1 (vp_updL g 0 x))) Q
    have h1 : am_get (am_upd T 440 (lA 1 (vp_updL g 0 x))) 440 = some (lA 1 (vp_updL g 0 x)) := am_get_self ho
    have hf : fr [440] T (am_upd T 440 (lA 1 (vp_updL g 0 x))) := fr_up (by simp)
    generalize am_upd T 440 (lA 1 (vp_updL g 0 x)) = T2 at h1 hf ⊢
    iterate 2 refine wp_step rfl rfl ?_
    refine wp_iret rfl rfl rfl (hq T2 hf h1)
  · obtain ⟨c, hc, hq⟩ := hq
    simp only [List.mem_cons, List.not_mem_nil, or_false, Prod.mk.injEq] at hc
    refine Or.inr ⟨c, ?_, hq⟩
    rcases hc with ⟨rfl, rfl⟩ | ⟨rfl, rfl⟩ <;> rfl
theorem h_175 {p0 p1 : Int32} (h0 : am_get S 0 = some (frC rec sp cc mp)) (hev : ev X d 87 [.ref 0, .int p0, .int p1] S (RtL Q g [(OOB, 1), (IAE, 2)])) : ev X (d + 1) 175 [.ref 0, .int p0, .int p1, .ref 440] S Q := by
  refine ev_wp (L0 := [some (.ref 0), some (.int p0), some (.int p1), some (.ref 440), none]) (Nat.le_of_ble_eq_true rfl) rfl ?_
  iterate 5 refine wp_step rfl rfl ?_
  refine wp_call rfl rfl (by decide) rfl (recv_ok h0 rfl) hev (fun v T hq => ?_) (fun E T hq => ?_)
  · obtain ⟨x, rfl⟩ : ∃ x, v = some (.long x) := by
      cases v with
      | none => exact hq.elim
      | some v =>
        cases v <;> first | exact ⟨_, rfl⟩ | exact hq.elim
    obtain ⟨ho, hq⟩ := hq
    refine wp_last rfl ho (by decide) ?_
    show wp X d 175 9 [some (.ref 0), some (.int p0), some (.int p1), some (.ref 440), none] [] (am_upd T 440 (lA 1 (vp_updL g 0 x))) Q
    have h1 : am_get (am_upd T 440 (lA 1 (vp_updL g 0 x))) 440 = some (lA 1 (vp_updL g 0 x)) := am_get_self ho
    have hf : fr [440] T (am_upd T 440 (lA 1 (vp_updL g 0 x))) := fr_up (by simp)
    generalize am_upd T 440 (lA 1 (vp_updL g 0 x)) = T2 at h1 hf ⊢
    iterate 2 refine wp_step rfl rfl ?_
    refine wp_iret rfl rfl rfl (hq T2 hf h1)
  · obtain ⟨c, hc, hq⟩ := hq
    simp only [List.mem_cons, List.not_mem_nil, or_false, Prod.mk.injEq] at hc
    refine Or.inr ⟨c, ?_, hq⟩
    rcases hc with ⟨rfl, rfl⟩ | ⟨rfl, rfl⟩ <;> rfl
end HELP
