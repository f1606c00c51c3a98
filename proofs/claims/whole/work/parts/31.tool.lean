/-! TOOLS: comparisons of small numbers, calls with what follows as the end condition, what a piece of code may change -/
section CMP
variable {a b : Nat}
theorem n_lt_t (ha : a < 2 ^ 31) (hb : b < 2 ^ 31) (h : am_c2 .lt (nI a) (nI b) = true) : a < b := by
  unfold am_c2 at h
  have h1 := of_decide_eq_true h
  rw [nI_ltI ha hb] at h1
  omega
theorem n_lt_f (ha : a < 2 ^ 31) (hb : b < 2 ^ 31) (h : am_c2 .lt (nI a) (nI b) = false) : b ≤ a := by
  unfold am_c2 at h
  have h1 := of_decide_eq_false h
  rw [nI_ltI ha hb] at h1
  omega
theorem n_ge_t (ha : a < 2 ^ 31) (hb : b < 2 ^ 31) (h : am_c2 .ge (nI a) (nI b) = true) : b ≤ a := by
  unfold am_c2 at h
  have h1 := of_decide_eq_true h
  rw [nI_leI hb ha] at h1
  omega
theorem n_ge_f (ha : a < 2 ^ 31) (hb : b < 2 ^ 31) (h : am_c2 .ge (nI a) (nI b) = false) : a < b := by
  unfold am_c2 at h
  have h1 := of_decide_eq_false h
  rw [nI_leI hb ha] at h1
  omega
theorem n_gt_t (ha : a < 2 ^ 31) (hb : b < 2 ^ 31) (h : am_c2 .gt (nI a) (nI b) = true) : b < a := by
  unfold am_c2 at h
  have h1 := of_decide_eq_true h
  rw [nI_ltI hb ha] at h1
  omega
theorem n_gt_f (ha : a < 2 ^ 31) (hb : b < 2 ^ 31) (h : am_c2 .gt (nI a) (nI b) = false) : a ≤ b := by
  unfold am_c2 at h
  have h1 := of_decide_eq_false h
  rw [nI_ltI hb ha] at h1
  omega
theorem n_le_t (ha : a < 2 ^ 31) (hb : b < 2 ^ 31) (h : am_c2 .le (nI a) (nI b) = true) : a ≤ b := by
  unfold am_c2 at h
  have h1 := of_decide_eq_true h
  rw [nI_leI ha hb] at h1
  omega
theorem n_le_f (ha : a < 2 ^ 31) (hb : b < 2 ^ 31) (h : am_c2 .le (nI a) (nI b) = false) : b < a := by
  unfold am_c2 at h
  have h1 := of_decide_eq_false h
  rw [nI_leI ha hb] at h1
  omega
theorem n_eq_t (ha : a < 2 ^ 31) (hb : b < 2 ^ 31) (h : am_c2 .eq (nI a) (nI b) = true) : a = b := by
  unfold am_c2 at h
  have h1 := of_decide_eq_true h
  rw [nI_eq ha hb] at h1
  omega
theorem n_eq_f (ha : a < 2 ^ 31) (hb : b < 2 ^ 31) (h : am_c2 .eq (nI a) (nI b) = false) : a ≠ b := by
  unfold am_c2 at h
  have h1 := of_decide_eq_false h
  rw [nI_eq ha hb] at h1
  omega
theorem n_ne_t (ha : a < 2 ^ 31) (hb : b < 2 ^ 31) (h : am_c2 .ne (nI a) (nI b) = true) : a ≠ b := by
  unfold am_c2 at h
  have h1 := of_decide_eq_true h
  rw [nI_eq ha hb] at h1
  omega
theorem n_ne_f (ha : a < 2 ^ 31) (hb : b < 2 ^ 31) (h : am_c2 .ne (nI a) (nI b) = false) : a = b := by
  unfold am_c2 at h
  have h1 := of_decide_eq_false h
  rw [nI_eq ha hb] at h1
  omega
theorem z_lt_t (ha : a < 2 ^ 31) (h : am_c1 .lt (nI a) = true) : False := by
  unfold am_c1 at h
  have h1 := of_decide_eq_true h
  rw [show (0 : Int32) = nI 0 from rfl, nI_ltI ha (by decide)] at h1
  omega
theorem z_lt_f (ha : a < 2 ^ 31) (h : am_c1 .lt (nI a) = false) : True := by
  unfold am_c1 at h
  have h1 := of_decide_eq_false h
  rw [show (0 : Int32) = nI 0 from rfl, nI_ltI ha (by decide)] at h1
  trivial
theorem z_ge_t (ha : a < 2 ^ 31) (h : am_c1 .ge (nI a) = true) : True := by
  unfold am_c1 at h
  have h1 := of_decide_eq_true h
  rw [show (0 : Int32) = nI 0 from rfl, nI_leI (by decide) ha] at h1
  trivial
theorem z_ge_f (ha : a < 2 ^ 31) (h : am_c1 .ge (nI a) = false) : False := by
  unfold am_c1 at h
  have h1 := of_decide_eq_false h
  rw [show (0 : Int32) = nI 0 from rfl, nI_leI (by decide) ha] at h1
  omega
theorem z_gt_t (ha : a < 2 ^ 31) (h : am_c1 .gt (nI a) = true) : 0 < a := by
  unfold am_c1 at h
  have h1 := of_decide_eq_true h
  rw [show (0 : Int32) = nI 0 from rfl, nI_ltI (by decide) ha] at h1
  omega
theorem z_gt_f (ha : a < 2 ^ 31) (h : am_c1 .gt (nI a) = false) : a = 0 := by
  unfold am_c1 at h
  have h1 := of_decide_eq_false h
  rw [show (0 : Int32) = nI 0 from rfl, nI_ltI (by decide) ha] at h1
  omega
theorem z_le_t (ha : a < 2 ^ 31) (h : am_c1 .le (nI a) = true) : a = 0 := by
  unfold am_c1 at h
  have h1 := of_decide_eq_true h
  rw [show (0 : Int32) = nI 0 from rfl, nI_leI ha (by decide)] at h1
  omega
theorem z_le_f (ha : a < 2 ^ 31) (h : am_c1 .le (nI a) = false) : 0 < a := by
  unfold am_c1 at h
  have h1 := of_decide_eq_false h
  rw [show (0 : Int32) = nI 0 from rfl, nI_leI ha (by decide)] at h1
  omega
theorem z_eq_t (ha : a < 2 ^ 31) (h : am_c1 .eq (nI a) = true) : a = 0 := by
  unfold am_c1 at h
  have h1 := of_decide_eq_true h
  rw [show (0 : Int32) = nI 0 from rfl, nI_eq ha (by decide)] at h1
  omega
theorem z_eq_f (ha : a < 2 ^ 31) (h : am_c1 .eq (nI a) = false) : a ≠ 0 := by
  unfold am_c1 at h
  have h1 := of_decide_eq_false h
  rw [show (0 : Int32) = nI 0 from rfl, nI_eq ha (by decide)] at h1
  omega
theorem z_ne_t (ha : a < 2 ^ 31) (h : am_c1 .ne (nI a) = true) : a ≠ 0 := by
  unfold am_c1 at h
  have h1 := of_decide_eq_true h
  rw [show (0 : Int32) = nI 0 from rfl, nI_eq ha (by decide)] at h1
  omega
theorem z_ne_f (ha : a < 2 ^ 31) (h : am_c1 .ne (nI a) = false) : a = 0 := by
  unfold am_c1 at h
  have h1 := of_decide_eq_false h
  rw [show (0 : Int32) = nI 0 from rfl, nI_eq ha (by decide)] at h1
  omega
end CMP
section AFT
variable {X : Nat × (Nat → Int32)} {d k pc : Nat} {L : am_L} {st : List Value} {S : am_S} {Q : am_R → Prop}
/-- what follows a call in a method without handlers -/
def aft (X : Nat × (Nat → Int32)) (d k pc : Nat) (L : am_L) (rest : List Value) (Q : am_R → Prop) : am_R → Prop
  | (.inl v, T) => wp X d k (pc + 3) L (v.toList ++ rest) T Q
  | (.inr E, T) => Q (.inr E, T)
theorem wp_c0 {i : am_I} {as rest : List Value} (hi : am_P k pc = some i) (hc : am_isCall i.1 = true) (hn : i.2.2.1 ≠ 99999) (ha : am_args i st = some (as, rest)) (hr : am_recv am_M1 i as S = true) (hh : (am_M1 k).2.2.2.2 = []) (hev : ev X d i.2.2.1 as S (aft X d k pc L rest Q)) : wp X d k pc L st S Q :=
  wp_call hi hc hn ha hr hev (fun _ _ h => h) (fun _ _ h => Or.inl ⟨hh, h⟩)
theorem wp_fail {x len w : Nat} {cst : Int} {fed total pos lim idp : Nat} {fk fp a b : Int32} (hi : am_P k pc = some (.invokevirtual x, len, 44, 3, w, cst)) (hh : (am_M1 k).2.2.2.2 = []) (h : am_get S 1 = some (src fed total pos lim idp fk fp)) (hq : Q (.inr IAE, am_thrown (am_upd S 1 (src fed total pos lim idp a b)))) : wp X (d + 1) k pc L [.int b, .int a, .ref 1] S Q := by
  refine wp_call hi rfl (show (44 : Nat) ≠ 99999 by decide) rfl (recv_ok h rfl) (s_fail (d := d) a b h) (fun v T e => by cases e) (fun E T e => ?_)
  cases e
  exact Or.inl ⟨hh, hq⟩
theorem ev_eq {as : List Value} {r : am_R} (h : ev X d k as S (fun r' => r' = r)) (hq : Q r) : ev X d k as S Q := ev_conv h (fun r' e => by rw [e]; exact hq)
end AFT
/-- nothing has changed but the cells of js -/
def fr (js : List Nat) (S T : am_S) : Prop := T.1 = S.1 ∧ T.2.2 = S.2.2 ∧ ∀ j, j ∉ js → T.2.1 j = S.2.1 j
theorem fr_refl (js : List Nat) (S : am_S) : fr js S S := ⟨rfl, rfl, fun _ _ => rfl⟩
theorem fr_trans {js : List Nat} {S T U : am_S} (h : fr js S T) (h2 : fr js T U) : fr js S U := ⟨h2.1.trans h.1, h2.2.1.trans h.2.1, fun j hj => (h2.2.2 j hj).trans (h.2.2 j hj)⟩
theorem fr_mono {js ks : List Nat} {S T : am_S} (h : fr js S T) (hk : ∀ j, j ∈ js → j ∈ ks) : fr ks S T := ⟨h.1, h.2.1, fun j hj => h.2.2 j (fun h9 => hj (hk j h9))⟩
theorem fr_upd {js : List Nat} {S T : am_S} {a : Nat} {x : am_C} (h : fr js S T) (ha : a ∈ js) : fr js S (am_upd T a x) := by
  refine ⟨h.1, h.2.1, fun j hj => ?_⟩
  have e : j ≠ a := fun e => hj (e ▸ ha)
  show (if j = a then x else T.2.1 j) = _
  rw [if_neg e]
  exact h.2.2 j hj
theorem fr_up {js : List Nat} {S : am_S} {a : Nat} {x : am_C} (ha : a ∈ js) : fr js S (am_upd S a x) := fr_upd (fr_refl js S) ha
theorem fr_get {js : List Nat} {S T : am_S} (h : fr js S T) {j : Nat} (hj : j ∉ js) : am_get T j = am_get S j := by
  unfold am_get
  rw [h.1, h.2.2 j hj]
theorem fr_sub {js ks : List Nat} {S T U : am_S} (h : fr js S T) (h2 : fr ks T U) (hk : ∀ j, j ∈ js → j ∈ ks) : fr ks S U := fr_trans (fr_mono h hk) h2
theorem fr_sub2 {js ks : List Nat} {S T U : am_S} (h : fr ks S T) (h2 : fr js T U) (hk : ∀ j, j ∈ js → j ∈ ks) : fr ks S U := fr_trans h (fr_mono h2 hk)
theorem get_ex {S : am_S} {a : Nat} {x y : am_C} (h : am_get S a = some y) : am_get (am_upd S a x) a = some x := am_get_self h
/-- what is looked for first -/
def fsti (f : Nat → Bool) : Nat → Nat → Option Nat
  | 0, _ => none
  | n + 1, i => if f i = true then some i else fsti f n (i + 1)
theorem fsti_some {f : Nat → Bool} : ∀ {n i j : Nat}, fsti f n i = some j → i ≤ j ∧ j < i + n ∧ f j = true ∧ ∀ k, i ≤ k → k < j → f k = false := by
  intro n
  induction n with
  | zero => intro i j h; cases h
  | succ n ih =>
    intro i j h
    unfold fsti at h
    split at h
    · cases h; exact ⟨Nat.le_refl _, by omega, by assumption, fun k h1 h2 => by omega⟩
    · rename_i hf
      obtain ⟨h1, h2, h3, h4⟩ := ih h
      refine ⟨by omega, by omega, h3, fun k h5 h6 => ?_⟩
      rcases Nat.eq_or_lt_of_le h5 with e | e
      · subst e; exact Bool.eq_false_iff.mpr hf
      · exact h4 k e h6
theorem fsti_none {f : Nat → Bool} : ∀ {n i : Nat}, fsti f n i = none → ∀ k, i ≤ k → k < i + n → f k = false := by
  intro n
  induction n with
  | zero => intro i _ k h1 h2; omega
  | succ n ih =>
    intro i h k h1 h2
    unfold fsti at h
    split at h
    · cases h
    · rename_i hf
      rcases Nat.eq_or_lt_of_le h1 with e | e
      · subst e; exact Bool.eq_false_iff.mpr hf
      · exact ih h k e (by omega)
theorem fsti_congr {f g : Nat → Bool} : ∀ {n i : Nat}, (∀ k, i ≤ k → k < i + n → f k = g k) → fsti f n i = fsti g n i := by
  intro n
  induction n with
  | zero => intro i _; rfl
  | succ n ih =>
    intro i h
    unfold fsti
    rw [h i (Nat.le_refl _) (by omega), ih (fun k h1 h2 => h k (by omega) (by omega))]
theorem fsti_mk {f : Nat → Bool} {j : Nat} : ∀ {n i : Nat}, i ≤ j → j < i + n → f j = true → (∀ k, i ≤ k → k < j → f k = false) → fsti f n i = some j := by
  intro n
  induction n with
  | zero => intro i h1 h2; omega
  | succ n ih =>
    intro i h1 h2 h3 h4
    unfold fsti
    rcases Nat.eq_or_lt_of_le h1 with e | e
    · subst e; rw [if_pos h3]
    · rw [if_neg (by rw [h4 i (Nat.le_refl _) e]; decide)]
      exact ih e (by omega) h3 (fun k h5 h6 => h4 k (by omega) h6)
theorem fsti_mkN {f : Nat → Bool} : ∀ {n i : Nat}, (∀ k, i ≤ k → k < i + n → f k = false) → fsti f n i = none := by
  intro n
  induction n with
  | zero => intro i _; rfl
  | succ n ih =>
    intro i h
    unfold fsti
    rw [if_neg (by rw [h i (Nat.le_refl _) (by omega)]; decide)]
    exact ih (fun k h1 h2 => h k (by omega) (by omega))
/-- a place, or -1 -/
def oI : Option Nat → Int32
  | some i => nI i
  | none => -1

