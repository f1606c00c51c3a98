/-! THE FILTER, as it is typed -/
/-- path, sign, number -/
abbrev jC : Type := Int32 × Nat × Int64
/-- state, name, comparisons (the last first), path, steps, digits, negative -/
abbrev jF : Type := Nat × Nat × List jC × Int32 × Nat × Nat × Bool
def pth (p : Int32) (c k : Nat) : Int32 := p ||| (nI c <<< (nI (8 * k) &&& 31))
def isSt (c : Nat) : Bool := decide ((97 ≤ c ∧ c ≤ 122) ∨ (48 ≤ c ∧ c ≤ 57))
def isSg (c : Nat) : Bool := decide (c = 61 ∨ c = 35 ∨ c = 60 ∨ c = 62)
def isDg (c : Nat) : Bool := decide (48 ≤ c ∧ c ≤ 57)
def dgV (c : Nat) (ng : Bool) : Int64 := (if ng = true then - nI (c - 48) else nI (c - 48)).toInt64
def tkStep (s : jF) (c : Nat) : jF := if isSt c = true then (3, s.2.1, s.2.2.1, pth s.2.2.2.1 c s.2.2.2.2.1, s.2.2.2.2.1 + 1, s.2.2.2.2.2.1, s.2.2.2.2.2.2) else (9, s.2)
def tkSign (s : jF) (c : Nat) : jF := if isSg c = true ∧ s.2.2.1.length ≠ 11 then (5, s.2.1, (s.2.2.2.1, c, 0) :: s.2.2.1, 0, 0, 0, false) else (9, s.2)
def tkDigit (s : jF) (c : Nat) : jF := match s.2.2.1 with
  | [] => (9, s.2)
  | x :: cs => if isDg c = true ∧ s.2.2.2.2.2.1 ≠ 9 then (7, s.2.1, (x.1, x.2.1, x.2.2 * 10 + dgV c s.2.2.2.2.2.2) :: cs, s.2.2.2.1, s.2.2.2.2.1, s.2.2.2.2.2.1 + 1, s.2.2.2.2.2.2) else (9, s.2)
/-- one character -/
def fst1 (s : jF) (c : Nat) : jF :=
  if s.1 = 0 then (if 65 ≤ c ∧ c ≤ 90 then (1, c, s.2.2) else tkStep s c)
  else if s.1 = 1 then (if c = 58 then (2, s.2) else (9, s.2))
  else if s.1 = 3 then (if c = 46 then (if s.2.2.2.2.1 < 4 then (4, s.2) else (9, s.2)) else tkSign s c)
  else if s.1 = 5 then (if c = 45 then (6, s.2.1, s.2.2.1, s.2.2.2.1, s.2.2.2.2.1, s.2.2.2.2.2.1, true) else tkDigit s c)
  else if s.1 = 6 then tkDigit s c
  else if s.1 = 7 then (if c = 38 then (8, s.2) else tkDigit s c)
  else tkStep s c
def frun : List Nat → Nat → jF → Nat ⊕ jF
  | [], _, s => .inr s
  | c :: cs, k, s => if (fst1 s c).1 = 9 then .inl k else frun cs (k + 1) (fst1 s c)
/-- the place where it is no filter, or the name and the comparisons -/
def fres (cs : List Nat) : Nat ⊕ (Nat × List jC) := match frun cs 0 (0, 0, [], 0, 0, 0, false) with
  | .inl k => .inl k
  | .inr s => if s.1 = 0 ∨ s.1 = 2 ∨ s.1 = 7 then .inr (s.2.1, s.2.2.1.reverse) else .inl cs.length
def bI (x : Bool) : Int32 := if x = true then 1 else 0
def flG (ln nm ct sa pa sp dg ng : Int32) : Nat → Value := fun k => match k with
  | 0 => .ref 394
  | 1 => .int ln
  | 2 => .int nm
  | 3 => .int ct
  | 4 => .ref 395
  | 5 => .ref 396
  | 6 => .ref 397
  | 7 => .int sa
  | 8 => .int pa
  | 9 => .int sp
  | 10 => .int dg
  | 11 => .int ng
  | _ => .null
abbrev flC (ln nm ct sa pa sp dg ng : Int32) : am_C := ob 2 12 (flG ln nm ct sa pa sp dg ng)
theorem flG_1 {ln nm ct sa pa sp dg ng z : Int32} : va_up (flG ln nm ct sa pa sp dg ng) 1 (.int z) = flG z nm ct sa pa sp dg ng := by
  funext k
  match k with
  | 0 => rfl
  | 1 => rfl
  | 2 => rfl
  | 3 => rfl
  | 4 => rfl
  | 5 => rfl
  | 6 => rfl
  | 7 => rfl
  | 8 => rfl
  | 9 => rfl
  | 10 => rfl
  | 11 => rfl
  | k + 12 => simp [va_up, flG]
theorem flG_2 {ln nm ct sa pa sp dg ng z : Int32} : va_up (flG ln nm ct sa pa sp dg ng) 2 (.int z) = flG ln z ct sa pa sp dg ng := by
  funext k
  match k with
  | 0 => rfl
  | 1 => rfl
  | 2 => rfl
  | 3 => rfl
  | 4 => rfl
  | 5 => rfl
  | 6 => rfl
  | 7 => rfl
  | 8 => rfl
  | 9 => rfl
  | 10 => rfl
  | 11 => rfl
  | k + 12 => simp [va_up, flG]
theorem flG_3 {ln nm ct sa pa sp dg ng z : Int32} : va_up (flG ln nm ct sa pa sp dg ng) 3 (.int z) = flG ln nm z sa pa sp dg ng := by
  funext k
  match k with
  | 0 => rfl
  | 1 => rfl
  | 2 => rfl
  | 3 => rfl
  | 4 => rfl
  | 5 => rfl
  | 6 => rfl
  | 7 => rfl
  | 8 => rfl
  | 9 => rfl
  | 10 => rfl
  | 11 => rfl
  | k + 12 => simp [va_up, flG]
theorem flG_7 {ln nm ct sa pa sp dg ng z : Int32} : va_up (flG ln nm ct sa pa sp dg ng) 7 (.int z) = flG ln nm ct z pa sp dg ng := by
  funext k
  match k with
  | 0 => rfl
  | 1 => rfl
  | 2 => rfl
  | 3 => rfl
  | 4 => rfl
  | 5 => rfl
  | 6 => rfl
  | 7 => rfl
  | 8 => rfl
  | 9 => rfl
  | 10 => rfl
  | 11 => rfl
  | k + 12 => simp [va_up, flG]
theorem flG_8 {ln nm ct sa pa sp dg ng z : Int32} : va_up (flG ln nm ct sa pa sp dg ng) 8 (.int z) = flG ln nm ct sa z sp dg ng := by
  funext k
  match k with
  | 0 => rfl
  | 1 => rfl
  | 2 => rfl
  | 3 => rfl
  | 4 => rfl
  | 5 => rfl
  | 6 => rfl
  | 7 => rfl
  | 8 => rfl
  | 9 => rfl
  | 10 => rfl
  | 11 => rfl
  | k + 12 => simp [va_up, flG]
theorem flG_9 {ln nm ct sa pa sp dg ng z : Int32} : va_up (flG ln nm ct sa pa sp dg ng) 9 (.int z) = flG ln nm ct sa pa z dg ng := by
  funext k
  match k with
  | 0 => rfl
  | 1 => rfl
  | 2 => rfl
  | 3 => rfl
  | 4 => rfl
  | 5 => rfl
  | 6 => rfl
  | 7 => rfl
  | 8 => rfl
  | 9 => rfl
  | 10 => rfl
  | 11 => rfl
  | k + 12 => simp [va_up, flG]
theorem flG_10 {ln nm ct sa pa sp dg ng z : Int32} : va_up (flG ln nm ct sa pa sp dg ng) 10 (.int z) = flG ln nm ct sa pa sp z ng := by
  funext k
  match k with
  | 0 => rfl
  | 1 => rfl
  | 2 => rfl
  | 3 => rfl
  | 4 => rfl
  | 5 => rfl
  | 6 => rfl
  | 7 => rfl
  | 8 => rfl
  | 9 => rfl
  | 10 => rfl
  | 11 => rfl
  | k + 12 => simp [va_up, flG]
theorem flG_11 {ln nm ct sa pa sp dg ng z : Int32} : va_up (flG ln nm ct sa pa sp dg ng) 11 (.int z) = flG ln nm ct sa pa sp dg z := by
  funext k
  match k with
  | 0 => rfl
  | 1 => rfl
  | 2 => rfl
  | 3 => rfl
  | 4 => rfl
  | 5 => rfl
  | 6 => rfl
  | 7 => rfl
  | 8 => rfl
  | 9 => rfl
  | 10 => rfl
  | 11 => rfl
  | k + 12 => simp [va_up, flG]
abbrev jFA : Type := (Nat → Int32) × (Nat → Int32) × (Nat → Int64)
def flD (P : jFA) : List jC → Prop
  | [] => True
  | x :: cs => P.1 cs.length = x.1 ∧ P.2.1 cs.length = nI x.2.1 ∧ P.2.2 cs.length = x.2.2 ∧ flD P cs
theorem flD_agr {P P' : jFA} : ∀ {cs : List jC}, flD P cs → (∀ i, i < cs.length → P'.1 i = P.1 i ∧ P'.2.1 i = P.2.1 i ∧ P'.2.2 i = P.2.2 i) → flD P' cs := by
  intro cs
  induction cs with
  | nil => intro _ _; trivial
  | cons x cs ih =>
    intro h ha
    obtain ⟨h1, h2, h3, h4⟩ := h
    obtain ⟨a1, a2, a3⟩ := ha cs.length (by simp)
    exact ⟨a1.trans h1, a2.trans h2, a3.trans h3, ih h4 (fun i hi => ha i (by simp; omega))⟩
theorem flD_at {P : jFA} : ∀ {cs : List jC}, flD P cs → ∀ (i : Nat) (x : jC), cs.reverse[i]? = some x → P.1 i = x.1 ∧ P.2.1 i = nI x.2.1 ∧ P.2.2 i = x.2.2 := by
  intro cs
  induction cs with
  | nil => intro _ i x hx; simp at hx
  | cons y cs ih =>
    intro h i x hx
    obtain ⟨h1, h2, h3, h4⟩ := h
    rw [List.reverse_cons] at hx
    rcases at_app hx with ⟨g1, g2⟩ | ⟨g1, g2⟩
    · exact ih h4 i x g2
    · subst g2; rw [g1, List.length_reverse]; exact ⟨h1, h2, h3⟩
/-- the filter's object and arrays, its typed letters aside -/
def flS (S : am_S) (ln : Int32) (s : jF) (P : jFA) : Prop := am_get S 393 = some (flC ln (nI s.2.1) (nI s.2.2.1.length) (nI s.1) s.2.2.2.1 (nI s.2.2.2.2.1) (nI s.2.2.2.2.2.1) (bI s.2.2.2.2.2.2)) ∧ am_get S 395 = some (iA 11 P.1) ∧ am_get S 396 = some (cA 11 P.2.1) ∧ am_get S 397 = some (lA 11 P.2.2) ∧ flD P s.2.2.1
theorem flS_fr {js : List Nat} {S T : am_S} {ln : Int32} {s : jF} {P : jFA} (h : flS S ln s P) (hf : fr js S T) (hj : ∀ j, j ∈ js → j < 393 ∨ j = 394 ∨ 398 ≤ j) : flS T ln s P := by
  obtain ⟨h0, h1, h2, h3, h4⟩ := h
  exact ⟨by rw [fr_get hf (fun g => by have := hj _ g; omega)]; exact h0, by rw [fr_get hf (fun g => by have := hj _ g; omega)]; exact h1, by rw [fr_get hf (fun g => by have := hj _ g; omega)]; exact h2, by rw [fr_get hf (fun g => by have := hj _ g; omega)]; exact h3, h4⟩
theorem flS_0 {S : am_S} {ln ln' nm' ct' sa' pa' sp' dg' ng' : Int32} {s s' : jF} {P : jFA} (h : flS S ln s P) (hc : s'.2.2.1 = s.2.2.1) (e : flC ln' nm' ct' sa' pa' sp' dg' ng' = flC ln' (nI s'.2.1) (nI s'.2.2.1.length) (nI s'.1) s'.2.2.2.1 (nI s'.2.2.2.2.1) (nI s'.2.2.2.2.2.1) (bI s'.2.2.2.2.2.2)) : flS (am_upd S 393 (flC ln' nm' ct' sa' pa' sp' dg' ng')) ln' s' P := by
  obtain ⟨h0, h1, h2, h3, h4⟩ := h
  exact ⟨by rw [am_get_self h0, e], by rw [am_get_ne (by decide)]; exact h1, by rw [am_get_ne (by decide)]; exact h2, by rw [am_get_ne (by decide)]; exact h3, by rw [hc]; exact h4⟩
section FILTER
variable {X : Nat × (Nat → Int32)} {d : Nat} {Q : am_R → Prop} {S : am_S} {ln : Int32} {s : jF} {P : jFA} {c : Nat}
theorem q_tkName (h : flS S ln s P) (hc : c < 65536) (hq : ∀ T P', fr [393, 395, 396, 397] S T → flS T ln (s.1, c, s.2.2) P' → Q (.inl (some (.int (nI 1))), T)) : ev X (d + 1) 21 [.ref 393, .int (nI c)] S Q := by
  refine ev_wp (L0 := [some (.ref 393), some (.int (nI c))]) (Nat.le_of_ble_eq_true rfl) rfl ?_
  iterate 2 refine wp_step rfl rfl ?_
  refine wp_putg rfl (show am_get S 393 = some (flC ln (nI s.2.1) (nI s.2.2.1.length) (nI s.1) s.2.2.2.1 (nI s.2.2.2.2.1) (nI s.2.2.2.2.2.1) (bI s.2.2.2.2.2.2)) from h.1) (by decide) rfl rfl ?_
  rw [show va_up (flG ln (nI s.2.1) (nI s.2.2.1.length) (nI s.1) s.2.2.2.1 (nI s.2.2.2.2.1) (nI s.2.2.2.2.2.1) (bI s.2.2.2.2.2.2)) 2 (.int (nI c)) = flG ln (nI c) (nI s.2.2.1.length) (nI s.1) s.2.2.2.1 (nI s.2.2.2.2.1) (nI s.2.2.2.2.2.1) (bI s.2.2.2.2.2.2) from flG_2]
  have h1 := flS_0 (s' := (s.1, c, s.2.2)) h rfl (show flC ln (nI c) (nI s.2.2.1.length) (nI s.1) s.2.2.2.1 (nI s.2.2.2.2.1) (nI s.2.2.2.2.2.1) (bI s.2.2.2.2.2.2) = _ from rfl)
  have hfh1 : fr [393] S (am_upd S 393 (flC ln (nI c) (nI s.2.2.1.length) (nI s.1) s.2.2.2.1 (nI s.2.2.2.2.1) (nI s.2.2.2.2.2.1) (bI s.2.2.2.2.2.2))) := fr_up (by simp)
  generalize am_upd S 393 (flC ln (nI c) (nI s.2.2.1.length) (nI s.1) s.2.2.2.1 (nI s.2.2.2.2.1) (nI s.2.2.2.2.2.1) (bI s.2.2.2.2.2.2)) = S1 at h1 hfh1 ⊢
  refine wp_step rfl rfl ?_
  refine wp_iret rfl rfl rfl (hq S1 P (fr_mono hfh1 (fun j hj => by simp only [List.mem_append, List.mem_cons, List.not_mem_nil, or_false, List.mem_range'_1] at hj ⊢; omega)) h1)
theorem q_tkMinus (h : flS S ln s P) (hq : ∀ T P', fr [393, 395, 396, 397] S T → flS T ln (s.1, s.2.1, s.2.2.1, s.2.2.2.1, s.2.2.2.2.1, s.2.2.2.2.2.1, true) P' → Q (.inl (some (.int (nI 6))), T)) : ev X (d + 1) 25 [.ref 393] S Q := by
  refine ev_wp (L0 := [some (.ref 393)]) (Nat.le_of_ble_eq_true rfl) rfl ?_
  iterate 2 refine wp_step rfl rfl ?_
  refine wp_putg rfl (show am_get S 393 = some (flC ln (nI s.2.1) (nI s.2.2.1.length) (nI s.1) s.2.2.2.1 (nI s.2.2.2.2.1) (nI s.2.2.2.2.2.1) (bI s.2.2.2.2.2.2)) from h.1) (by decide) rfl rfl ?_
  rw [show va_up (flG ln (nI s.2.1) (nI s.2.2.1.length) (nI s.1) s.2.2.2.1 (nI s.2.2.2.2.1) (nI s.2.2.2.2.2.1) (bI s.2.2.2.2.2.2)) 11 (.int (Int32.ofInt 1)) = flG ln (nI s.2.1) (nI s.2.2.1.length) (nI s.1) s.2.2.2.1 (nI s.2.2.2.2.1) (nI s.2.2.2.2.2.1) (Int32.ofInt 1) from flG_11]
  have h1 := flS_0 (s' := (s.1, s.2.1, s.2.2.1, s.2.2.2.1, s.2.2.2.2.1, s.2.2.2.2.2.1, true)) h rfl (show flC ln (nI s.2.1) (nI s.2.2.1.length) (nI s.1) s.2.2.2.1 (nI s.2.2.2.2.1) (nI s.2.2.2.2.2.1) (Int32.ofInt 1) = _ from rfl)
  have hfh1 : fr [393] S (am_upd S 393 (flC ln (nI s.2.1) (nI s.2.2.1.length) (nI s.1) s.2.2.2.1 (nI s.2.2.2.2.1) (nI s.2.2.2.2.2.1) (Int32.ofInt 1))) := fr_up (by simp)
  generalize am_upd S 393 (flC ln (nI s.2.1) (nI s.2.2.1.length) (nI s.1) s.2.2.2.1 (nI s.2.2.2.2.1) (nI s.2.2.2.2.2.1) (Int32.ofInt 1)) = S1 at h1 hfh1 ⊢
  refine wp_step rfl rfl ?_
  refine wp_iret rfl rfl rfl (hq S1 P (fr_mono hfh1 (fun j hj => by simp only [List.mem_append, List.mem_cons, List.not_mem_nil, or_false, List.mem_range'_1] at hj ⊢; omega)) h1)
theorem q_tkDot (h : flS S ln s P) (hs : s.2.2.2.2.1 ≤ 1000) (hq : Q (.inl (some (.int (nI (if s.2.2.2.2.1 < 4 then 4 else 9)))), S)) : ev X (d + 1) 23 [.ref 393] S Q := by
  refine ev_wp (L0 := [some (.ref 393)]) (Nat.le_of_ble_eq_true rfl) rfl ?_
  refine wp_step rfl rfl ?_
  refine wp_getg rfl h.1 (by decide) rfl ?_
  refine wp_step rfl rfl ?_
  refine wp_icmp rfl (fun c0 => ?_) (fun c0 => ?_)
  · replace c0 := n_ge_t (a := s.2.2.2.2.1) (b := 4) (by omega) (by omega) c0
    refine wp_step rfl rfl ?_
    refine wp_iret rfl rfl rfl (by rw [if_neg (by omega)] at hq; exact hq)
  · replace c0 := n_ge_f (a := s.2.2.2.2.1) (b := 4) (by omega) (by omega) c0
    iterate 2 refine wp_step rfl rfl ?_
    refine wp_iret rfl rfl rfl (by rw [if_pos c0] at hq; exact hq)
theorem q_tkStep (h : flS S ln s P) (hc : c < 65536) (hq : ∀ T P', fr [393, 395, 396, 397] S T → flS T ln (s.1, (tkStep s c).2) P' → Q (.inl (some (.int (nI (tkStep s c).1))), T)) : ev X (d + 1) 22 [.ref 393, .int (nI c)] S Q := by
  refine ev_wp (L0 := [some (.ref 393), some (.int (nI c))]) (Nat.le_of_ble_eq_true rfl) rfl ?_
  have bad : isSt c = false → wp X d 22 24 [some (.ref 393), some (.int (nI c))] [] S Q := by
    intro hb
    refine wp_step rfl rfl ?_
    refine wp_iret rfl rfl rfl (by have h9 := hq S P (fr_refl _ _); unfold tkStep at h9; rw [if_neg (by rw [hb]; decide)] at h9; exact h9 h)
  have ok : isSt c = true → wp X d 22 27 [some (.ref 393), some (.int (nI c))] [] S Q := by
    intro hb
    iterate 2 refine wp_step rfl rfl ?_
    refine wp_getg rfl h.1 (by decide) rfl ?_
    iterate 3 refine wp_step rfl rfl ?_
    refine wp_getg rfl h.1 (by decide) rfl ?_
    iterate 3 refine wp_step rfl rfl ?_
    rw [show (Int8.ofInt 8).toInt32 * nI s.2.2.2.2.1 = nI (8 * s.2.2.2.2.1) from pk_mul 8 s.2.2.2.2.1]
    rw [show (s.2.2.2.1 ||| (nI c <<< (nI (8 * s.2.2.2.2.1) &&& 31))) = pth s.2.2.2.1 c s.2.2.2.2.1 from rfl]
    refine wp_putg rfl (show am_get S 393 = some (flC ln (nI s.2.1) (nI s.2.2.1.length) (nI s.1) s.2.2.2.1 (nI s.2.2.2.2.1) (nI s.2.2.2.2.2.1) (bI s.2.2.2.2.2.2)) from h.1) (by decide) rfl rfl ?_
    rw [show va_up (flG ln (nI s.2.1) (nI s.2.2.1.length) (nI s.1) s.2.2.2.1 (nI s.2.2.2.2.1) (nI s.2.2.2.2.2.1) (bI s.2.2.2.2.2.2)) 8 (.int (pth s.2.2.2.1 c s.2.2.2.2.1)) = flG ln (nI s.2.1) (nI s.2.2.1.length) (nI s.1) (pth s.2.2.2.1 c s.2.2.2.2.1) (nI s.2.2.2.2.1) (nI s.2.2.2.2.2.1) (bI s.2.2.2.2.2.2) from flG_8]
    have h1 := flS_0 (s' := (s.1, s.2.1, s.2.2.1, pth s.2.2.2.1 c s.2.2.2.2.1, s.2.2.2.2.1, s.2.2.2.2.2.1, s.2.2.2.2.2.2)) h rfl (show flC ln (nI s.2.1) (nI s.2.2.1.length) (nI s.1) (pth s.2.2.2.1 c s.2.2.2.2.1) (nI s.2.2.2.2.1) (nI s.2.2.2.2.2.1) (bI s.2.2.2.2.2.2) = _ from rfl)
    have hfh1 : fr [393] S (am_upd S 393 (flC ln (nI s.2.1) (nI s.2.2.1.length) (nI s.1) (pth s.2.2.2.1 c s.2.2.2.2.1) (nI s.2.2.2.2.1) (nI s.2.2.2.2.2.1) (bI s.2.2.2.2.2.2))) := fr_up (by simp)
    generalize am_upd S 393 (flC ln (nI s.2.1) (nI s.2.2.1.length) (nI s.1) (pth s.2.2.2.1 c s.2.2.2.2.1) (nI s.2.2.2.2.1) (nI s.2.2.2.2.2.1) (bI s.2.2.2.2.2.2)) = S1 at h1 hfh1 ⊢
    iterate 2 refine wp_step rfl rfl ?_
    refine wp_getg rfl h1.1 (by decide) rfl ?_
    iterate 2 refine wp_step rfl rfl ?_
    rw [show nI s.2.2.2.2.1 + Int32.ofInt 1 = nI (s.2.2.2.2.1 + 1) from nI_add s.2.2.2.2.1 1]
    refine wp_putg rfl (show am_get S1 393 = some (flC ln (nI s.2.1) (nI s.2.2.1.length) (nI s.1) (pth s.2.2.2.1 c s.2.2.2.2.1) (nI s.2.2.2.2.1) (nI s.2.2.2.2.2.1) (bI s.2.2.2.2.2.2)) from h1.1) (by decide) rfl rfl ?_
    rw [show va_up (flG ln (nI s.2.1) (nI s.2.2.1.length) (nI s.1) (pth s.2.2.2.1 c s.2.2.2.2.1) (nI s.2.2.2.2.1) (nI s.2.2.2.2.2.1) (bI s.2.2.2.2.2.2)) 9 (.int (nI (s.2.2.2.2.1 + 1))) = flG ln (nI s.2.1) (nI s.2.2.1.length) (nI s.1) (pth s.2.2.2.1 c s.2.2.2.2.1) (nI (s.2.2.2.2.1 + 1)) (nI s.2.2.2.2.2.1) (bI s.2.2.2.2.2.2) from flG_9]
    have h2 := flS_0 (s' := (s.1, s.2.1, s.2.2.1, pth s.2.2.2.1 c s.2.2.2.2.1, s.2.2.2.2.1 + 1, s.2.2.2.2.2.1, s.2.2.2.2.2.2)) h1 rfl (show flC ln (nI s.2.1) (nI s.2.2.1.length) (nI s.1) (pth s.2.2.2.1 c s.2.2.2.2.1) (nI (s.2.2.2.2.1 + 1)) (nI s.2.2.2.2.2.1) (bI s.2.2.2.2.2.2) = _ from rfl)
    have hfh2 : fr [393] S1 (am_upd S1 393 (flC ln (nI s.2.1) (nI s.2.2.1.length) (nI s.1) (pth s.2.2.2.1 c s.2.2.2.2.1) (nI (s.2.2.2.2.1 + 1)) (nI s.2.2.2.2.2.1) (bI s.2.2.2.2.2.2))) := fr_up (by simp)
    generalize am_upd S1 393 (flC ln (nI s.2.1) (nI s.2.2.1.length) (nI s.1) (pth s.2.2.2.1 c s.2.2.2.2.1) (nI (s.2.2.2.2.1 + 1)) (nI s.2.2.2.2.2.1) (bI s.2.2.2.2.2.2)) = S2 at h2 hfh2 ⊢
    refine wp_step rfl rfl ?_
    refine wp_iret rfl rfl rfl (by have h9 := hq S2 P (fr_trans (fr_mono hfh1 (fun j hj => by simp only [List.mem_append, List.mem_cons, List.not_mem_nil, or_false, List.mem_range'_1] at hj ⊢; omega)) (fr_mono hfh2 (fun j hj => by simp only [List.mem_append, List.mem_cons, List.not_mem_nil, or_false, List.mem_range'_1] at hj ⊢; omega))); unfold tkStep at h9; rw [if_pos hb] at h9; exact h9 h2)
  iterate 2 refine wp_step rfl rfl ?_
  refine wp_icmp rfl (fun c0 => ?_) (fun c0 => ?_)
  · replace c0 := n_lt_t (a := c) (b := 97) (by omega) (by omega) c0
    iterate 2 refine wp_step rfl rfl ?_
    refine wp_icmp rfl (fun c2 => ?_) (fun c2 => ?_)
    · replace c2 := n_lt_t (a := c) (b := 48) (by omega) (by omega) c2
      exact bad (by unfold isSt; rw [decide_eq_false (by omega)])
    · replace c2 := n_lt_f (a := c) (b := 48) (by omega) (by omega) c2
      iterate 2 refine wp_step rfl rfl ?_
      refine wp_icmp rfl (fun c3 => ?_) (fun c3 => ?_)
      · replace c3 := n_le_t (a := c) (b := 57) (by omega) (by omega) c3
        exact ok (by unfold isSt; rw [decide_eq_true (by omega)])
      · replace c3 := n_le_f (a := c) (b := 57) (by omega) (by omega) c3
        exact bad (by unfold isSt; rw [decide_eq_false (by omega)])
  · replace c0 := n_lt_f (a := c) (b := 97) (by omega) (by omega) c0
    iterate 2 refine wp_step rfl rfl ?_
    refine wp_icmp rfl (fun c1 => ?_) (fun c1 => ?_)
    · replace c1 := n_le_t (a := c) (b := 122) (by omega) (by omega) c1
      exact ok (by unfold isSt; rw [decide_eq_true (by omega)])
    · replace c1 := n_le_f (a := c) (b := 122) (by omega) (by omega) c1
      iterate 2 refine wp_step rfl rfl ?_
      refine wp_icmp rfl (fun c2 => ?_) (fun c2 => ?_)
      · replace c2 := n_lt_t (a := c) (b := 48) (by omega) (by omega) c2
        exact bad (by unfold isSt; rw [decide_eq_false (by omega)])
      · replace c2 := n_lt_f (a := c) (b := 48) (by omega) (by omega) c2
        iterate 2 refine wp_step rfl rfl ?_
        refine wp_icmp rfl (fun c3 => ?_) (fun c3 => ?_)
        · replace c3 := n_le_t (a := c) (b := 57) (by omega) (by omega) c3
          exact ok (by unfold isSt; rw [decide_eq_true (by omega)])
        · replace c3 := n_le_f (a := c) (b := 57) (by omega) (by omega) c3
          exact bad (by unfold isSt; rw [decide_eq_false (by omega)])
set_option maxHeartbeats 1000000 in
theorem q_tkSign (h : flS S ln s P) (hc : c < 65536) (h11 : s.2.2.1.length ≤ 11) (hq : ∀ T P', fr [393, 395, 396, 397] S T → flS T ln (s.1, (tkSign s c).2) P' → Q (.inl (some (.int (nI (tkSign s c).1))), T)) : ev X (d + 1) 24 [.ref 393, .int (nI c)] S Q := by
  refine ev_wp (L0 := [some (.ref 393), some (.int (nI c))]) (Nat.le_of_ble_eq_true rfl) rfl ?_
  have bad : ¬ (isSg c = true ∧ s.2.2.1.length ≠ 11) → wp X d 24 33 [some (.ref 393), some (.int (nI c))] [] S Q := by
    intro hb
    refine wp_step rfl rfl ?_
    refine wp_iret rfl rfl rfl (by have h9 := hq S P (fr_refl _ _); unfold tkSign at h9; rw [if_neg hb] at h9; exact h9 h)
  have ok : isSg c = true → wp X d 24 24 [some (.ref 393), some (.int (nI c))] [] S Q := by
    intro hb
    refine wp_step rfl rfl ?_
    refine wp_getg rfl h.1 (by decide) rfl ?_
    refine wp_step rfl rfl ?_
    refine wp_icmp rfl (fun c9 => ?_) (fun c9 => ?_)
    · replace c9 := n_ne_t (a := s.2.2.1.length) (b := 11) (by omega) (by omega) c9
      have hl11 : s.2.2.1.length < 11 := by omega
      refine wp_step rfl rfl ?_
      refine wp_getg rfl h.1 (by decide) rfl ?_
      refine wp_step rfl rfl ?_
      refine wp_getg rfl h.1 (by decide) rfl ?_
      refine wp_step rfl rfl ?_
      refine wp_getg (v := (.int s.2.2.2.1)) rfl h.1 (by decide) rfl ?_
      refine wp_ast rfl (Or.inl ⟨rfl, rfl⟩) h.2.1 (am_in_nI (by omega) (by decide)) ?_
      rw [nI_clamp (by omega)]
      rw [show vp_nar (am_ty 0) (s.2.2.2.1) = s.2.2.2.1 from rfl]
      have g0 : am_get (am_upd S 395 (iA 11 (upd P.1 s.2.2.1.length s.2.2.2.1))) 393 = some (flC ln (nI s.2.1) (nI s.2.2.1.length) (nI s.1) s.2.2.2.1 (nI s.2.2.2.2.1) (nI s.2.2.2.2.2.1) (bI s.2.2.2.2.2.2)) := by rw [am_get_ne (by decide)]; exact h.1
      have g1 : am_get (am_upd S 395 (iA 11 (upd P.1 s.2.2.1.length s.2.2.2.1))) 395 = some (iA 11 (upd P.1 s.2.2.1.length s.2.2.2.1)) := am_get_self h.2.1
      have g2 : am_get (am_upd S 395 (iA 11 (upd P.1 s.2.2.1.length s.2.2.2.1))) 396 = some (cA 11 P.2.1) := by rw [am_get_ne (by decide)]; exact h.2.2.1
      have g3 : am_get (am_upd S 395 (iA 11 (upd P.1 s.2.2.1.length s.2.2.2.1))) 397 = some (lA 11 P.2.2) := by rw [am_get_ne (by decide)]; exact h.2.2.2.1
      have hf1 : fr [393, 395, 396, 397] S (am_upd S 395 (iA 11 (upd P.1 s.2.2.1.length s.2.2.2.1))) := fr_up (by simp)
      generalize am_upd S 395 (iA 11 (upd P.1 s.2.2.1.length s.2.2.2.1)) = S1 at g0 g1 g2 g3 hf1 ⊢
      refine wp_step rfl rfl ?_
      refine wp_getg rfl g0 (by decide) rfl ?_
      refine wp_step rfl rfl ?_
      refine wp_getg rfl g0 (by decide) rfl ?_
      refine wp_step rfl rfl ?_
      refine wp_ast rfl (Or.inr (Or.inr ⟨rfl, rfl⟩)) g2 (am_in_nI (by omega) (by decide)) ?_
      rw [nI_clamp (by omega)]
      rw [show vp_nar (am_ty 3) (nI c) = nI c from Value.int.inj (pk_charN hc).1]
      have g0 : am_get (am_upd S1 396 (cA 11 (upd P.2.1 s.2.2.1.length (nI c)))) 393 = some (flC ln (nI s.2.1) (nI s.2.2.1.length) (nI s.1) s.2.2.2.1 (nI s.2.2.2.2.1) (nI s.2.2.2.2.2.1) (bI s.2.2.2.2.2.2)) := by rw [am_get_ne (by decide)]; exact g0
      have g1 : am_get (am_upd S1 396 (cA 11 (upd P.2.1 s.2.2.1.length (nI c)))) 395 = some (iA 11 (upd P.1 s.2.2.1.length s.2.2.2.1)) := by rw [am_get_ne (by decide)]; exact g1
      have g2 : am_get (am_upd S1 396 (cA 11 (upd P.2.1 s.2.2.1.length (nI c)))) 396 = some (cA 11 (upd P.2.1 s.2.2.1.length (nI c))) := am_get_self g2
      have g3 : am_get (am_upd S1 396 (cA 11 (upd P.2.1 s.2.2.1.length (nI c)))) 397 = some (lA 11 P.2.2) := by rw [am_get_ne (by decide)]; exact g3
      have hf2 : fr [393, 395, 396, 397] S (am_upd S1 396 (cA 11 (upd P.2.1 s.2.2.1.length (nI c)))) := fr_upd hf1 (by simp)
      generalize am_upd S1 396 (cA 11 (upd P.2.1 s.2.2.1.length (nI c))) = S2 at g0 g1 g2 g3 hf2 ⊢
      refine wp_step rfl rfl ?_
      refine wp_getg rfl g0 (by decide) rfl ?_
      refine wp_step rfl rfl ?_
      refine wp_getg rfl g0 (by decide) rfl ?_
      refine wp_step rfl rfl ?_
      refine wp_last rfl g3 (am_in_nI (by omega) (by decide)) ?_
      rw [nI_clamp (by omega)]
      have g0 : am_get (am_upd S2 397 (lA 11 (vp_updL P.2.2 s.2.2.1.length 0))) 393 = some (flC ln (nI s.2.1) (nI s.2.2.1.length) (nI s.1) s.2.2.2.1 (nI s.2.2.2.2.1) (nI s.2.2.2.2.2.1) (bI s.2.2.2.2.2.2)) := by rw [am_get_ne (by decide)]; exact g0
      have g1 : am_get (am_upd S2 397 (lA 11 (vp_updL P.2.2 s.2.2.1.length 0))) 395 = some (iA 11 (upd P.1 s.2.2.1.length s.2.2.2.1)) := by rw [am_get_ne (by decide)]; exact g1
      have g2 : am_get (am_upd S2 397 (lA 11 (vp_updL P.2.2 s.2.2.1.length 0))) 396 = some (cA 11 (upd P.2.1 s.2.2.1.length (nI c))) := by rw [am_get_ne (by decide)]; exact g2
      have g3 : am_get (am_upd S2 397 (lA 11 (vp_updL P.2.2 s.2.2.1.length 0))) 397 = some (lA 11 (vp_updL P.2.2 s.2.2.1.length 0)) := am_get_self g3
      have hf3 : fr [393, 395, 396, 397] S (am_upd S2 397 (lA 11 (vp_updL P.2.2 s.2.2.1.length 0))) := fr_upd hf2 (by simp)
      show wp X d 24 69 [some (.ref 393), some (.int (nI c))] [] (am_upd S2 397 (lA 11 (vp_updL P.2.2 s.2.2.1.length 0))) Q
      generalize am_upd S2 397 (lA 11 (vp_updL P.2.2 s.2.2.1.length 0)) = S3 at g0 g1 g2 g3 hf3 ⊢
      have hn : flD (upd P.1 s.2.2.1.length s.2.2.2.1, upd P.2.1 s.2.2.1.length (nI c), vp_updL P.2.2 s.2.2.1.length 0) ((s.2.2.2.1, c, 0) :: s.2.2.1) :=
        ⟨pk_us, pk_us, pk_uLs, flD_agr h.2.2.2.2 (fun i hi => ⟨pk_un (by omega), pk_un (by omega), pk_uLn (by omega)⟩)⟩
      iterate 2 refine wp_step rfl rfl ?_
      refine wp_getg rfl g0 (by decide) rfl ?_
      iterate 2 refine wp_step rfl rfl ?_
      rw [show nI s.2.2.1.length + Int32.ofInt 1 = nI (s.2.2.1.length + 1) from nI_add s.2.2.1.length 1]
      refine wp_putg rfl g0 (by decide) rfl rfl ?_
      rw [show va_up (flG ln (nI s.2.1) (nI s.2.2.1.length) (nI s.1) s.2.2.2.1 (nI s.2.2.2.2.1) (nI s.2.2.2.2.2.1) (bI s.2.2.2.2.2.2)) 3 (.int (nI (s.2.2.1.length + 1))) = flG ln (nI s.2.1) (nI (s.2.2.1.length + 1)) (nI s.1) s.2.2.2.1 (nI s.2.2.2.2.1) (nI s.2.2.2.2.2.1) (bI s.2.2.2.2.2.2) from flG_3]
      have k0 : flS (am_upd S3 393 (flC ln (nI s.2.1) (nI (s.2.2.1.length + 1)) (nI s.1) s.2.2.2.1 (nI s.2.2.2.2.1) (nI s.2.2.2.2.2.1) (bI s.2.2.2.2.2.2))) ln (s.1, s.2.1, (s.2.2.2.1, c, 0) :: s.2.2.1, s.2.2.2.1, s.2.2.2.2.1, s.2.2.2.2.2.1, s.2.2.2.2.2.2) (upd P.1 s.2.2.1.length s.2.2.2.1, upd P.2.1 s.2.2.1.length (nI c), vp_updL P.2.2 s.2.2.1.length 0) :=
        ⟨am_get_self g0, by rw [am_get_ne (by decide)]; exact g1, by rw [am_get_ne (by decide)]; exact g2, by rw [am_get_ne (by decide)]; exact g3, hn⟩
      have hf4 : fr [393, 395, 396, 397] S (am_upd S3 393 (flC ln (nI s.2.1) (nI (s.2.2.1.length + 1)) (nI s.1) s.2.2.2.1 (nI s.2.2.2.2.1) (nI s.2.2.2.2.2.1) (bI s.2.2.2.2.2.2))) := fr_upd hf3 (by simp)
      generalize am_upd S3 393 (flC ln (nI s.2.1) (nI (s.2.2.1.length + 1)) (nI s.1) s.2.2.2.1 (nI s.2.2.2.2.1) (nI s.2.2.2.2.2.1) (bI s.2.2.2.2.2.2)) = S4 at k0 hf4 ⊢
      iterate 2 refine wp_step rfl rfl ?_
      refine wp_putg rfl (show am_get S4 393 = some (flC ln (nI s.2.1) (nI (s.2.2.1.length + 1)) (nI s.1) s.2.2.2.1 (nI s.2.2.2.2.1) (nI s.2.2.2.2.2.1) (bI s.2.2.2.2.2.2)) from k0.1) (by decide) rfl rfl ?_
      rw [show va_up (flG ln (nI s.2.1) (nI (s.2.2.1.length + 1)) (nI s.1) s.2.2.2.1 (nI s.2.2.2.2.1) (nI s.2.2.2.2.2.1) (bI s.2.2.2.2.2.2)) 8 (.int (Int32.ofInt 0)) = flG ln (nI s.2.1) (nI (s.2.2.1.length + 1)) (nI s.1) (Int32.ofInt 0) (nI s.2.2.2.2.1) (nI s.2.2.2.2.2.1) (bI s.2.2.2.2.2.2) from flG_8]
      have k1 := flS_0 (s' := (s.1, s.2.1, (s.2.2.2.1, c, 0) :: s.2.2.1, 0, s.2.2.2.2.1, s.2.2.2.2.2.1, s.2.2.2.2.2.2)) k0 rfl (show flC ln (nI s.2.1) (nI (s.2.2.1.length + 1)) (nI s.1) (Int32.ofInt 0) (nI s.2.2.2.2.1) (nI s.2.2.2.2.2.1) (bI s.2.2.2.2.2.2) = _ from rfl)
      have hfk1 : fr [393] S4 (am_upd S4 393 (flC ln (nI s.2.1) (nI (s.2.2.1.length + 1)) (nI s.1) (Int32.ofInt 0) (nI s.2.2.2.2.1) (nI s.2.2.2.2.2.1) (bI s.2.2.2.2.2.2))) := fr_up (by simp)
      generalize am_upd S4 393 (flC ln (nI s.2.1) (nI (s.2.2.1.length + 1)) (nI s.1) (Int32.ofInt 0) (nI s.2.2.2.2.1) (nI s.2.2.2.2.2.1) (bI s.2.2.2.2.2.2)) = S5 at k1 hfk1 ⊢
      iterate 2 refine wp_step rfl rfl ?_
      refine wp_putg rfl (show am_get S5 393 = some (flC ln (nI s.2.1) (nI (s.2.2.1.length + 1)) (nI s.1) (Int32.ofInt 0) (nI s.2.2.2.2.1) (nI s.2.2.2.2.2.1) (bI s.2.2.2.2.2.2)) from k1.1) (by decide) rfl rfl ?_
      rw [show va_up (flG ln (nI s.2.1) (nI (s.2.2.1.length + 1)) (nI s.1) (Int32.ofInt 0) (nI s.2.2.2.2.1) (nI s.2.2.2.2.2.1) (bI s.2.2.2.2.2.2)) 9 (.int (Int32.ofInt 0)) = flG ln (nI s.2.1) (nI (s.2.2.1.length + 1)) (nI s.1) (Int32.ofInt 0) (Int32.ofInt 0) (nI s.2.2.2.2.2.1) (bI s.2.2.2.2.2.2) from flG_9]
      have k2 := flS_0 (s' := (s.1, s.2.1, (s.2.2.2.1, c, 0) :: s.2.2.1, 0, 0, s.2.2.2.2.2.1, s.2.2.2.2.2.2)) k1 rfl (show flC ln (nI s.2.1) (nI (s.2.2.1.length + 1)) (nI s.1) (Int32.ofInt 0) (Int32.ofInt 0) (nI s.2.2.2.2.2.1) (bI s.2.2.2.2.2.2) = _ from rfl)
      have hfk2 : fr [393] S5 (am_upd S5 393 (flC ln (nI s.2.1) (nI (s.2.2.1.length + 1)) (nI s.1) (Int32.ofInt 0) (Int32.ofInt 0) (nI s.2.2.2.2.2.1) (bI s.2.2.2.2.2.2))) := fr_up (by simp)
      generalize am_upd S5 393 (flC ln (nI s.2.1) (nI (s.2.2.1.length + 1)) (nI s.1) (Int32.ofInt 0) (Int32.ofInt 0) (nI s.2.2.2.2.2.1) (bI s.2.2.2.2.2.2)) = S6 at k2 hfk2 ⊢
      iterate 2 refine wp_step rfl rfl ?_
      refine wp_putg rfl (show am_get S6 393 = some (flC ln (nI s.2.1) (nI (s.2.2.1.length + 1)) (nI s.1) (Int32.ofInt 0) (Int32.ofInt 0) (nI s.2.2.2.2.2.1) (bI s.2.2.2.2.2.2)) from k2.1) (by decide) rfl rfl ?_
      rw [show va_up (flG ln (nI s.2.1) (nI (s.2.2.1.length + 1)) (nI s.1) (Int32.ofInt 0) (Int32.ofInt 0) (nI s.2.2.2.2.2.1) (bI s.2.2.2.2.2.2)) 10 (.int (Int32.ofInt 0)) = flG ln (nI s.2.1) (nI (s.2.2.1.length + 1)) (nI s.1) (Int32.ofInt 0) (Int32.ofInt 0) (Int32.ofInt 0) (bI s.2.2.2.2.2.2) from flG_10]
      have k3 := flS_0 (s' := (s.1, s.2.1, (s.2.2.2.1, c, 0) :: s.2.2.1, 0, 0, 0, s.2.2.2.2.2.2)) k2 rfl (show flC ln (nI s.2.1) (nI (s.2.2.1.length + 1)) (nI s.1) (Int32.ofInt 0) (Int32.ofInt 0) (Int32.ofInt 0) (bI s.2.2.2.2.2.2) = _ from rfl)
      have hfk3 : fr [393] S6 (am_upd S6 393 (flC ln (nI s.2.1) (nI (s.2.2.1.length + 1)) (nI s.1) (Int32.ofInt 0) (Int32.ofInt 0) (Int32.ofInt 0) (bI s.2.2.2.2.2.2))) := fr_up (by simp)
      generalize am_upd S6 393 (flC ln (nI s.2.1) (nI (s.2.2.1.length + 1)) (nI s.1) (Int32.ofInt 0) (Int32.ofInt 0) (Int32.ofInt 0) (bI s.2.2.2.2.2.2)) = S7 at k3 hfk3 ⊢
      iterate 2 refine wp_step rfl rfl ?_
      refine wp_putg rfl (show am_get S7 393 = some (flC ln (nI s.2.1) (nI (s.2.2.1.length + 1)) (nI s.1) (Int32.ofInt 0) (Int32.ofInt 0) (Int32.ofInt 0) (bI s.2.2.2.2.2.2)) from k3.1) (by decide) rfl rfl ?_
      rw [show va_up (flG ln (nI s.2.1) (nI (s.2.2.1.length + 1)) (nI s.1) (Int32.ofInt 0) (Int32.ofInt 0) (Int32.ofInt 0) (bI s.2.2.2.2.2.2)) 11 (.int (Int32.ofInt 0)) = flG ln (nI s.2.1) (nI (s.2.2.1.length + 1)) (nI s.1) (Int32.ofInt 0) (Int32.ofInt 0) (Int32.ofInt 0) (Int32.ofInt 0) from flG_11]
      have k4 := flS_0 (s' := (s.1, s.2.1, (s.2.2.2.1, c, 0) :: s.2.2.1, 0, 0, 0, false)) k3 rfl (show flC ln (nI s.2.1) (nI (s.2.2.1.length + 1)) (nI s.1) (Int32.ofInt 0) (Int32.ofInt 0) (Int32.ofInt 0) (Int32.ofInt 0) = _ from rfl)
      have hfk4 : fr [393] S7 (am_upd S7 393 (flC ln (nI s.2.1) (nI (s.2.2.1.length + 1)) (nI s.1) (Int32.ofInt 0) (Int32.ofInt 0) (Int32.ofInt 0) (Int32.ofInt 0))) := fr_up (by simp)
      generalize am_upd S7 393 (flC ln (nI s.2.1) (nI (s.2.2.1.length + 1)) (nI s.1) (Int32.ofInt 0) (Int32.ofInt 0) (Int32.ofInt 0) (Int32.ofInt 0)) = S8 at k4 hfk4 ⊢
      refine wp_step rfl rfl ?_
      refine wp_iret rfl rfl rfl (by have h9 := hq S8 (upd P.1 s.2.2.1.length s.2.2.2.1, upd P.2.1 s.2.2.1.length (nI c), vp_updL P.2.2 s.2.2.1.length 0) (fr_trans hf4 (fr_mono (fr_trans hfk1 (fr_trans hfk2 (fr_trans hfk3 hfk4))) (fun j hj => by simp only [List.mem_append, List.mem_cons, List.not_mem_nil, or_false, List.mem_range'_1] at hj ⊢; omega))); unfold tkSign at h9; rw [if_pos ⟨hb, by omega⟩] at h9; exact h9 k4)
    · replace c9 := n_ne_f (a := s.2.2.1.length) (b := 11) (by omega) (by omega) c9
      exact bad (fun h9 => h9.2 c9)
  iterate 2 refine wp_step rfl rfl ?_
  refine wp_icmp rfl (fun c61 => ?_) (fun c61 => ?_)
  · replace c61 := n_eq_t (a := c) (b := 61) (by omega) (by omega) c61
    exact ok (by unfold isSg; rw [decide_eq_true (by omega)])
  · replace c61 := n_eq_f (a := c) (b := 61) (by omega) (by omega) c61
    iterate 2 refine wp_step rfl rfl ?_
    refine wp_icmp rfl (fun c35 => ?_) (fun c35 => ?_)
    · replace c35 := n_eq_t (a := c) (b := 35) (by omega) (by omega) c35
      exact ok (by unfold isSg; rw [decide_eq_true (by omega)])
    · replace c35 := n_eq_f (a := c) (b := 35) (by omega) (by omega) c35
      iterate 2 refine wp_step rfl rfl ?_
      refine wp_icmp rfl (fun c60 => ?_) (fun c60 => ?_)
      · replace c60 := n_eq_t (a := c) (b := 60) (by omega) (by omega) c60
        exact ok (by unfold isSg; rw [decide_eq_true (by omega)])
      · replace c60 := n_eq_f (a := c) (b := 60) (by omega) (by omega) c60
        iterate 2 refine wp_step rfl rfl ?_
        refine wp_icmp rfl (fun c62 => ?_) (fun c62 => ?_)
        · replace c62 := n_ne_t (a := c) (b := 62) (by omega) (by omega) c62
          exact bad (fun h9 => by have := h9.1; unfold isSg at this; rw [decide_eq_false (by omega)] at this; cases this)
        · replace c62 := n_ne_f (a := c) (b := 62) (by omega) (by omega) c62
          exact ok (by unfold isSg; rw [decide_eq_true (by omega)])
set_option maxHeartbeats 1000000 in
theorem q_tkDigit (h : flS S ln s P) (hc : c < 65536) (h11 : s.2.2.1.length ≤ 11) (hdg : s.2.2.2.2.2.1 ≤ 9) (hq : ∀ T P', fr [393, 395, 396, 397] S T → flS T ln (s.1, (tkDigit s c).2) P' → Q (.inl (some (.int (nI (tkDigit s c).1))), T)) : ev X (d + 1) 26 [.ref 393, .int (nI c)] S Q := by
  refine ev_wp (L0 := [some (.ref 393), some (.int (nI c)), none]) (Nat.le_of_ble_eq_true rfl) rfl ?_
  have bad : ((tkDigit s c) = (9, s.2)) → wp X d 26 28 [some (.ref 393), some (.int (nI c)), none] [] S Q := by
    intro hb
    have h9 := hq S P (fr_refl _ _)
    rw [hb] at h9
    refine wp_step rfl rfl ?_
    refine wp_iret rfl rfl rfl (h9 h)
  have ng : ¬ (isDg c = true ∧ s.2.2.2.2.2.1 ≠ 9) → tkDigit s c = (9, s.2) := by
    intro hb
    unfold tkDigit
    split
    · rfl
    · exact if_neg hb
  iterate 2 refine wp_step rfl rfl ?_
  refine wp_icmp rfl (fun c0 => ?_) (fun c0 => ?_)
  · replace c0 := n_lt_t (a := c) (b := 48) (by omega) (by omega) c0
    exact bad (ng (fun h9 => by have := h9.1; unfold isDg at this; rw [decide_eq_false (by omega)] at this; cases this))
  · replace c0 := n_lt_f (a := c) (b := 48) (by omega) (by omega) c0
    iterate 2 refine wp_step rfl rfl ?_
    refine wp_icmp rfl (fun c1 => ?_) (fun c1 => ?_)
    · replace c1 := n_gt_t (a := c) (b := 57) (by omega) (by omega) c1
      exact bad (ng (fun h9 => by have := h9.1; unfold isDg at this; rw [decide_eq_false (by omega)] at this; cases this))
    · replace c1 := n_gt_f (a := c) (b := 57) (by omega) (by omega) c1
      refine wp_step rfl rfl ?_
      refine wp_getg rfl h.1 (by decide) rfl ?_
      refine wp_step rfl rfl ?_
      refine wp_icmp rfl (fun c2 => ?_) (fun c2 => ?_)
      · replace c2 := n_eq_t (a := s.2.2.2.2.2.1) (b := 9) (by omega) (by omega) c2
        exact bad (ng (fun h9 => h9.2 c2))
      · replace c2 := n_eq_f (a := s.2.2.2.2.2.1) (b := 9) (by omega) (by omega) c2
        refine wp_step rfl rfl ?_
        refine wp_getg rfl h.1 (by decide) rfl ?_
        refine wp_if rfl (fun c3 => ?_) (fun c3 => ?_)
        · replace c3 := z_ne_t (a := s.2.2.1.length) (by omega) c3
          obtain ⟨x, cs, hcs⟩ : ∃ x cs, s.2.2.1 = x :: cs := by
            cases e9 : s.2.2.1 with
            | nil => rw [e9] at c3; exact absurd rfl c3
            | cons x cs => exact ⟨x, cs, rfl⟩
          have hlen : s.2.2.1.length = cs.length + 1 := by rw [hcs]; rfl
          have hD := h.2.2.2.2
          rw [hcs] at hD
          obtain ⟨d1, d2, d3, d4⟩ := hD
          have htk : tkDigit s c = (7, s.2.1, (x.1, x.2.1, x.2.2 * 10 + dgV c s.2.2.2.2.2.2) :: cs, s.2.2.2.1, s.2.2.2.2.1, s.2.2.2.2.2.1 + 1, s.2.2.2.2.2.2) := by
            unfold tkDigit
            rw [hcs]
            exact if_pos ⟨by unfold isDg; rw [decide_eq_true (by omega)], c2⟩
          iterate 3 refine wp_step rfl rfl ?_
          rw [show nI c - (Int8.ofInt 48).toInt32 = nI (c - 48) from pk_sub (b := 48) (by omega)]
          refine wp_step rfl rfl ?_
          show wp X _ 26 36 [some (.ref 393), some (.int (nI c)), some (.int (nI (c - 48)))] [] S Q
          refine wp_step rfl rfl ?_
          refine wp_getg rfl h.1 (by decide) rfl ?_
          refine wp_step rfl rfl ?_
          refine wp_getg rfl h.1 (by decide) rfl ?_
          iterate 2 refine wp_step rfl rfl ?_
          rw [show nI s.2.2.1.length - Int32.ofInt 1 = nI cs.length from by rw [hlen]; exact nI_pred _]
          refine wp_step rfl rfl ?_
          refine wp_getg rfl h.1 (by decide) rfl ?_
          refine wp_step rfl rfl ?_
          refine wp_getg rfl h.1 (by decide) rfl ?_
          iterate 2 refine wp_step rfl rfl ?_
          rw [show nI s.2.2.1.length - Int32.ofInt 1 = nI cs.length from by rw [hlen]; exact nI_pred _]
          refine wp_lald rfl (by decide) h.2.2.2.1 (am_in_nI (by omega) (by decide)) ?_
          rw [nI_clamp (by omega)]
          rw [d3]
          iterate 2 refine wp_step rfl rfl ?_
          refine wp_step rfl rfl ?_
          refine wp_getg rfl h.1 (by decide) rfl ?_
          have fin : ∀ z : Int32, z.toInt64 = dgV c s.2.2.2.2.2.2 → wp X d 26 74 [some (.ref 393), some (.int (nI c)), some (.int (nI (c - 48)))] [.int z, .long (x.2.2 * Int64.ofInt 10), .int (nI cs.length), .ref 397] S Q := by
            intro z hz
            iterate 2 refine wp_step rfl rfl ?_
            rw [show x.2.2 * Int64.ofInt 10 + z.toInt64 = x.2.2 * 10 + dgV c s.2.2.2.2.2.2 from by rw [← hz]; rfl]
            refine wp_last rfl h.2.2.2.1 (am_in_nI (by omega) (by decide)) ?_
            rw [nI_clamp (by omega)]
            have g0 : am_get (am_upd S 397 (lA 11 (vp_updL P.2.2 cs.length (x.2.2 * 10 + dgV c s.2.2.2.2.2.2)))) 393 = some (flC ln (nI s.2.1) (nI s.2.2.1.length) (nI s.1) s.2.2.2.1 (nI s.2.2.2.2.1) (nI s.2.2.2.2.2.1) (bI s.2.2.2.2.2.2)) := by rw [am_get_ne (by decide)]; exact h.1
            have g1 : am_get (am_upd S 397 (lA 11 (vp_updL P.2.2 cs.length (x.2.2 * 10 + dgV c s.2.2.2.2.2.2)))) 395 = some (iA 11 P.1) := by rw [am_get_ne (by decide)]; exact h.2.1
            have g2 : am_get (am_upd S 397 (lA 11 (vp_updL P.2.2 cs.length (x.2.2 * 10 + dgV c s.2.2.2.2.2.2)))) 396 = some (cA 11 P.2.1) := by rw [am_get_ne (by decide)]; exact h.2.2.1
            have g3 : am_get (am_upd S 397 (lA 11 (vp_updL P.2.2 cs.length (x.2.2 * 10 + dgV c s.2.2.2.2.2.2)))) 397 = some (lA 11 (vp_updL P.2.2 cs.length (x.2.2 * 10 + dgV c s.2.2.2.2.2.2))) := am_get_self h.2.2.2.1
            have hf1 : fr [393, 395, 396, 397] S (am_upd S 397 (lA 11 (vp_updL P.2.2 cs.length (x.2.2 * 10 + dgV c s.2.2.2.2.2.2)))) := fr_up (by simp)
            generalize am_upd S 397 (lA 11 (vp_updL P.2.2 cs.length (x.2.2 * 10 + dgV c s.2.2.2.2.2.2))) = S1 at g0 g1 g2 g3 hf1 ⊢
            have hn : flD (P.1, P.2.1, vp_updL P.2.2 cs.length (x.2.2 * 10 + dgV c s.2.2.2.2.2.2)) ((x.1, x.2.1, x.2.2 * 10 + dgV c s.2.2.2.2.2.2) :: cs) :=
              ⟨d1, d2, pk_uLs, flD_agr d4 (fun i hi => ⟨rfl, rfl, pk_uLn (by omega)⟩)⟩
            iterate 2 refine wp_step rfl rfl ?_
            refine wp_getg rfl g0 (by decide) rfl ?_
            iterate 2 refine wp_step rfl rfl ?_
            rw [show nI s.2.2.2.2.2.1 + Int32.ofInt 1 = nI (s.2.2.2.2.2.1 + 1) from nI_add s.2.2.2.2.2.1 1]
            refine wp_putg rfl g0 (by decide) rfl rfl ?_
            rw [show va_up (flG ln (nI s.2.1) (nI s.2.2.1.length) (nI s.1) s.2.2.2.1 (nI s.2.2.2.2.1) (nI s.2.2.2.2.2.1) (bI s.2.2.2.2.2.2)) 10 (.int (nI (s.2.2.2.2.2.1 + 1))) = flG ln (nI s.2.1) (nI s.2.2.1.length) (nI s.1) s.2.2.2.1 (nI s.2.2.2.2.1) (nI (s.2.2.2.2.2.1 + 1)) (bI s.2.2.2.2.2.2) from flG_10]
            refine wp_step rfl rfl ?_
            refine wp_iret rfl rfl rfl (by
              have h9 := hq (am_upd S1 393 (flC ln (nI s.2.1) (nI s.2.2.1.length) (nI s.1) s.2.2.2.1 (nI s.2.2.2.2.1) (nI (s.2.2.2.2.2.1 + 1)) (bI s.2.2.2.2.2.2))) (P.1, P.2.1, vp_updL P.2.2 cs.length (x.2.2 * 10 + dgV c s.2.2.2.2.2.2)) (fr_upd hf1 (by simp))
              rw [htk] at h9
              refine h9 ⟨?_, by rw [am_get_ne (by decide)]; exact g1, by rw [am_get_ne (by decide)]; exact g2, by rw [am_get_ne (by decide)]; exact g3, hn⟩
              rw [am_get_self g0]
              dsimp only
              rw [hlen]
              rfl)
          cases eng : s.2.2.2.2.2.2 with
          | false =>
            refine wp_if_t rfl rfl ?_
            refine wp_step rfl rfl ?_
            exact fin _ (by unfold dgV; rw [eng]; rfl)
          | true =>
            refine wp_if_f rfl rfl ?_
            iterate 3 refine wp_step rfl rfl ?_
            exact fin _ (by unfold dgV; rw [eng]; rfl)
        · replace c3 := z_ne_f (a := s.2.2.1.length) (by omega) c3
          exact bad (by unfold tkDigit; rw [List.eq_nil_of_length_eq_zero c3])
end FILTER
