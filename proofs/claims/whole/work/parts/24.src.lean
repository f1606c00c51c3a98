/-! Source: what its cells are, and its methods -/
def srcG (fed total pos lim idp : Nat) (fk fp : Int32) : Nat → Value := fun k => match k with
  | 0 => .ref 2
  | 1 => .int (nI fed)
  | 2 => .int (nI total)
  | 3 => .int (nI pos)
  | 4 => .int (nI lim)
  | 5 => .int (nI idp)
  | 6 => .int fk
  | 7 => .int fp
  | _ => .null
abbrev src (fed total pos lim idp : Nat) (fk fp : Int32) : am_C := ob 5 8 (srcG fed total pos lim idp fk fp)
theorem srcG_1 {fed total pos lim idp : Nat} {fk fp : Int32} {z : Nat} : va_up (srcG fed total pos lim idp fk fp) 1 (.int (nI z)) = srcG z total pos lim idp fk fp := by
  funext k
  match k with
  | 0 => rfl
  | 1 => rfl
  | 2 => rfl
  | 3 => rfl
  | 4 => rfl
  | 5 => rfl
  | 6 => rfl
  | 7 => rfl
  | k + 8 => simp [va_up, srcG]
theorem srcG_2 {fed total pos lim idp : Nat} {fk fp : Int32} {z : Nat} : va_up (srcG fed total pos lim idp fk fp) 2 (.int (nI z)) = srcG fed z pos lim idp fk fp := by
  funext k
  match k with
  | 0 => rfl
  | 1 => rfl
  | 2 => rfl
  | 3 => rfl
  | 4 => rfl
  | 5 => rfl
  | 6 => rfl
  | 7 => rfl
  | k + 8 => simp [va_up, srcG]
theorem srcG_3 {fed total pos lim idp : Nat} {fk fp : Int32} {z : Nat} : va_up (srcG fed total pos lim idp fk fp) 3 (.int (nI z)) = srcG fed total z lim idp fk fp := by
  funext k
  match k with
  | 0 => rfl
  | 1 => rfl
  | 2 => rfl
  | 3 => rfl
  | 4 => rfl
  | 5 => rfl
  | 6 => rfl
  | 7 => rfl
  | k + 8 => simp [va_up, srcG]
theorem srcG_4 {fed total pos lim idp : Nat} {fk fp : Int32} {z : Nat} : va_up (srcG fed total pos lim idp fk fp) 4 (.int (nI z)) = srcG fed total pos z idp fk fp := by
  funext k
  match k with
  | 0 => rfl
  | 1 => rfl
  | 2 => rfl
  | 3 => rfl
  | 4 => rfl
  | 5 => rfl
  | 6 => rfl
  | 7 => rfl
  | k + 8 => simp [va_up, srcG]
theorem srcG_5 {fed total pos lim idp : Nat} {fk fp : Int32} {z : Nat} : va_up (srcG fed total pos lim idp fk fp) 5 (.int (nI z)) = srcG fed total pos lim z fk fp := by
  funext k
  match k with
  | 0 => rfl
  | 1 => rfl
  | 2 => rfl
  | 3 => rfl
  | 4 => rfl
  | 5 => rfl
  | 6 => rfl
  | 7 => rfl
  | k + 8 => simp [va_up, srcG]
theorem srcG_6 {fed total pos lim idp : Nat} {fk fp : Int32} {z : Int32} : va_up (srcG fed total pos lim idp fk fp) 6 (.int z) = srcG fed total pos lim idp z fp := by
  funext k
  match k with
  | 0 => rfl
  | 1 => rfl
  | 2 => rfl
  | 3 => rfl
  | 4 => rfl
  | 5 => rfl
  | 6 => rfl
  | 7 => rfl
  | k + 8 => simp [va_up, srcG]
theorem srcG_7 {fed total pos lim idp : Nat} {fk fp : Int32} {z : Int32} : va_up (srcG fed total pos lim idp fk fp) 7 (.int z) = srcG fed total pos lim idp fk z := by
  funext k
  match k with
  | 0 => rfl
  | 1 => rfl
  | 2 => rfl
  | 3 => rfl
  | 4 => rfl
  | 5 => rfl
  | 6 => rfl
  | 7 => rfl
  | k + 8 => simp [va_up, srcG]
/-- the byte at j, as the code sees it -/
abbrev by8 (fb : Nat → Int32) : Nat → Int32 := fun j => fb j &&& 255
abbrev IAE : String := "java/lang/IllegalArgumentException"
section SRC
variable {X : Nat × (Nat → Int32)} {d : Nat} {S : am_S} {fed total pos lim idp : Nat} {fk fp : Int32} {fb : Nat → Int32}
theorem s_fail (a b : Int32) (h : am_get S 1 = some (src fed total pos lim idp fk fp)) : ev X (d + 1) 44 [.ref 1, .int a, .int b] S (fun r => r = (.inr IAE, am_thrown (am_upd S 1 (src fed total pos lim idp a b)))) := by
  have h1 := c44 X d a b h
  rw [srcG_6, srcG_7] at h1
  exact h1
theorem s_byteAt {p : Nat} (h : am_get S 1 = some (src fed total pos lim idp fk fp)) (hB : am_get S 2 = some (.inl (2, 960, .inl fb))) (hp : p < 960) : ev X (d + 1) 45 [.ref 1, .int (nI p)] S (fun r => r = (.inl (some (.int (by8 fb p))), S)) := by
  refine ev_wp (L0 := [some (.ref 1), some (.int (nI p))]) (Nat.le_of_ble_eq_true rfl) rfl ?_
  refine wp_step rfl rfl ?_
  refine wp_getg rfl h (by decide) rfl ?_
  refine wp_step rfl rfl ?_
  refine wp_ald rfl (Or.inr (Or.inl ⟨rfl, rfl⟩)) (by decide) hB (am_in_nI hp (by decide)) ?_
  rw [nI_clamp (by omega)]
  refine wp_step rfl rfl ?_
  refine wp_step rfl rfl ?_
  exact wp_iret rfl rfl rfl rfl

/-- a number, in full -/
def num9 (B : Nat → Int32) (lim p : Nat) : Option (Int64 × Nat) := cnum B lim 9 0 p 0
theorem cnum_pos {B : Nat → Int32} {lim : Nat} : ∀ (n k p : Nat) (v v' : Int64) (p' : Nat), cnum B lim n k p v = some (v', p') → p < p' ∧ p' ≤ lim ∧ p' ≤ p + n := by
  intro n
  induction n with
  | zero => intro k p v v' p' h; cases h
  | succ n ih =>
    intro k p v v' p' h
    simp only [cnum] at h
    split at h
    · cases h
    · split at h
      · cases h; omega
      · have h1 := ih _ _ _ _ _ h
        omega
theorem num9_pos {B : Nat → Int32} {lim p p' : Nat} {v : Int64} (h : num9 B lim p = some (v, p')) : p < p' ∧ p' ≤ lim := by
  have h1 := cnum_pos _ _ _ _ _ _ h
  exact ⟨h1.1, h1.2.1⟩
theorem s_number (h : am_get S 1 = some (src fed total pos lim idp fk fp)) (hB : am_get S 2 = some (.inl (2, 960, .inl fb))) (hl : lim ≤ 960) (hp : pos ≤ 960) :
    ev X (d + 2) 49 [.ref 1] S (fun r => (∃ v p', num9 (by8 fb) lim pos = some (v, p') ∧ r = (.inl (some (.long v)), am_upd S 1 (src fed total p' lim idp fk fp))) ∨ (num9 (by8 fb) lim pos = none ∧ ∃ q, q ≤ 960 ∧ r = (.inr IAE, am_thrown (am_upd S 1 (src fed total q lim idp 2 (nI pos)))))) := by
  refine ev_wp (L0 := [some (.ref 1), none, none, none, none, none]) (Nat.le_of_ble_eq_true rfl) rfl ?_
  refine wp_step rfl rfl ?_
  refine wp_getg rfl h (by decide) rfl ?_
  refine wp_step rfl rfl ?_
  refine wp_step rfl rfl ?_
  refine wp_step rfl rfl ?_
  refine wp_step rfl rfl ?_
  refine wp_step rfl rfl ?_
  refine number_loop X d (bo := 2) (by decide) hl (by decide) 8 0 pos 0 none S _ rfl h hB rfl rfl rfl hp (fun v' p' h9 => Or.inl ⟨v', p', h9, ?_⟩) (fun h9 q hq => Or.inr ⟨h9, q, hq, ?_⟩)
  · rw [srcG_3]
  · rw [srcG_3, srcG_6, srcG_7]
/-- a count, length, place or id -/
def cnt (B : Nat → Int32) (lim p : Nat) : Option (Nat × Nat) := match num9 B lim p with
  | some (v, p') => if v < 0 ∨ 2147483648 ≤ v then none else some (v.toInt.toNat, p')
  | none => none
theorem l2i_nat {v : Int64} (h0 : ¬ v < 0) (h1 : ¬ 2147483648 ≤ v) : v.toInt32 = nI v.toInt.toNat ∧ v.toInt.toNat < 2 ^ 31 := by
  obtain ⟨k, hk, rfl⟩ := pk_lOf h0
  have e : (lN k).toInt = (k : Int) := pk_lT hk
  rw [lN_i, e]
  have h2 : ¬ lN 2147483648 ≤ lN k := h1
  rw [pk_lLE (by decide) hk] at h2
  exact ⟨by simp, by simp; omega⟩
theorem cnt_lt {B : Nat → Int32} {lim p n p' : Nat} (h : cnt B lim p = some (n, p')) : n < 2 ^ 31 ∧ p < p' ∧ p' ≤ lim := by
  unfold cnt at h
  split at h
  · rename_i v q hv
    split at h
    · cases h
    · rename_i hc
      cases h
      exact ⟨(l2i_nat (fun h9 => hc (Or.inl h9)) (fun h9 => hc (Or.inr h9))).2, num9_pos hv⟩
  · cases h
theorem lc_neg {v : Int64} {t : Bool} (h : am_c1 .lt (lg_cmp v 0) = t) : (v < 0 ↔ t = true) := by
  unfold am_c1 at h
  rw [← h, decide_eq_true_iff]
  exact (lg_cmp_lt v 0).symm
end SRC
