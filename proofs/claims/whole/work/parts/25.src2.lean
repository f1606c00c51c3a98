/-! Source's reading methods -/
section SRC2
variable {X : Nat × (Nat → Int32)} {d : Nat} {S : am_S} {fed total pos lim idp : Nat} {fk fp : Int32} {fb : Nat → Int32}
theorem s_count (h : am_get S 1 = some (src fed total pos lim idp fk fp)) (hB : am_get S 2 = some (.inl (2, 960, .inl fb))) (hl : lim ≤ 960) (hp : pos ≤ 960) :
    ev X (d + 3) 50 [.ref 1] S (fun r => (∃ n p', cnt (by8 fb) lim pos = some (n, p') ∧ r = (.inl (some (.int (nI n))), am_upd S 1 (src fed total p' lim idp fk fp))) ∨ (cnt (by8 fb) lim pos = none ∧ ∃ q, q ≤ 960 ∧ r = (.inr IAE, am_thrown (am_upd S 1 (src fed total q lim idp 2 (nI pos)))))) := by
  refine ev_wp (L0 := [some (.ref 1), none, none, none]) (Nat.le_of_ble_eq_true rfl) rfl ?_
  refine wp_step rfl rfl ?_
  refine wp_getg rfl h (by decide) rfl ?_
  refine wp_step rfl rfl ?_
  refine wp_step rfl rfl ?_
  refine wp_call rfl rfl (by decide) rfl (recv_ok h rfl) (s_number h hB hl hp) (fun v T hq => ?_) (fun E T hq => ?_)
  · rcases hq with ⟨v', p', hn, e⟩ | ⟨-, q, -, e⟩
    · cases e
      have hpp := num9_pos hn
      have bad : (v' < 0 ∨ 2147483648 ≤ v') → wp X (d + 2) 50 24 [some (.ref 1), some (.int (nI pos)), some (.long v'), none] [] (am_upd S 1 (src fed total p' lim idp fk fp)) (fun r => (∃ n p', cnt (by8 fb) lim pos = some (n, p') ∧ r = (.inl (some (.int (nI n))), am_upd S 1 (src fed total p' lim idp fk fp))) ∨ (cnt (by8 fb) lim pos = none ∧ ∃ q, q ≤ 960 ∧ r = (.inr IAE, am_thrown (am_upd S 1 (src fed total q lim idp 2 (nI pos)))))) := by
        intro hbad
        refine wp_step rfl rfl ?_
        refine wp_step rfl rfl ?_
        refine wp_step rfl rfl ?_
        refine wp_call rfl rfl (by decide) rfl (recv_ok (am_get_self h) rfl) (ev_up (by omega) (s_fail (d := 0) _ _ (am_get_self h))) (fun v T hq => by cases hq) (fun E T hq => ?_)
        cases hq
        refine Or.inl ⟨rfl, Or.inr ⟨?_, p', by omega, ?_⟩⟩
        · unfold cnt; rw [hn]; exact if_pos hbad
        · rw [am_upd_upd]; rfl
      refine wp_step rfl rfl ?_
      refine wp_step rfl rfl ?_
      refine wp_step rfl rfl ?_
      refine wp_step rfl rfl ?_
      refine wp_if rfl (fun c1 => ?_) (fun c1 => ?_)
      · exact bad (Or.inl ((lg_cmp_lt v' 0).mp (of_decide_eq_true c1)))
      · have h0 : ¬ v' < 0 := fun h9 => of_decide_eq_false c1 ((lg_cmp_lt v' 0).mpr h9)
        refine wp_step rfl rfl ?_
        refine wp_step rfl rfl ?_
        refine wp_step rfl rfl ?_
        refine wp_if rfl (fun c2 => ?_) (fun c2 => ?_)
        · have h1 : v' < 2147483648 := (lg_cmp_lt v' 2147483648).mp (of_decide_eq_true c2)
          have h1 : ¬ 2147483648 ≤ v' := fun h9 => absurd h1 (Int64.not_lt.mpr h9)
          refine wp_step rfl rfl ?_
          refine wp_step rfl rfl ?_
          refine wp_iret rfl rfl rfl (Or.inl ⟨v'.toInt.toNat, p', ?_, ?_⟩)
          · unfold cnt; rw [hn]; exact if_neg (fun h9 => h9.elim h0 h1)
          · rw [(l2i_nat h0 h1).1]
        · have h1 : ¬ v' < 2147483648 := fun h9 => of_decide_eq_false c2 ((lg_cmp_lt v' 2147483648).mpr h9)
          exact bad (Or.inr (Int64.not_lt.mp h1))
    · cases e
  · rcases hq with ⟨v', p', hn, e⟩ | ⟨hn, q, hq, e⟩
    · cases e
    · cases e
      refine Or.inl ⟨rfl, Or.inr ⟨?_, q, hq, rfl⟩⟩
      unfold cnt; rw [hn]
/-- n bytes at p, the highest first -/
def fx (B : Nat → Int32) (p : Nat) : Nat → Int64
  | 0 => 0
  | i + 1 => (fx B p i <<< ((8 : Int32).toInt64 &&& 63)) ||| (B (p + i)).toInt64
theorem fixedAt_loop {p n : Nat} {Q : am_R → Prop} (h : am_get S 1 = some (src fed total pos lim idp fk fp)) (hB : am_get S 2 = some (.inl (2, 960, .inl fb))) (hpn : p + n ≤ 960) (hQ : Q (.inl (some (.long (fx (by8 fb) p n))), S)) :
    ∀ (m i : Nat), i + m = n → wp X d 46 5 [some (.ref 1), some (.int (nI p)), some (.int (nI n)), some (.long (fx (by8 fb) p i)), none, some (.int (nI i))] [] S Q := by
  intro m
  induction m with
  | zero =>
    intro i hi
    refine wp_step rfl rfl ?_
    refine wp_step rfl rfl ?_
    refine wp_icmp_t rfl (show am_c2 .ge (nI i) (nI n) = true from decide_eq_true (nI_le (by omega) (by omega))) ?_
    refine wp_step rfl rfl ?_
    have e : i = n := by omega
    subst e
    exact wp_lret rfl rfl hQ
  | succ m ih =>
    intro i hi
    refine wp_step rfl rfl ?_
    refine wp_step rfl rfl ?_
    refine wp_icmp_f rfl (show am_c2 .ge (nI i) (nI n) = false from decide_eq_false (nI_ge (by omega) (by omega))) ?_
    refine wp_step rfl rfl ?_
    refine wp_step rfl rfl ?_
    refine wp_step rfl rfl ?_
    refine wp_step rfl rfl ?_
    refine wp_getg rfl h (by decide) rfl ?_
    refine wp_step rfl rfl ?_
    refine wp_step rfl rfl ?_
    refine wp_step rfl rfl ?_
    rw [nI_add]
    refine wp_ald rfl (Or.inr (Or.inl ⟨rfl, rfl⟩)) (by decide) hB (am_in_nI (by omega) (by decide)) ?_
    rw [nI_clamp (by omega)]
    refine wp_step rfl rfl ?_
    refine wp_step rfl rfl ?_
    refine wp_step rfl rfl ?_
    refine wp_step rfl rfl ?_
    refine wp_step rfl rfl ?_
    refine wp_step rfl rfl ?_
    refine wp_step rfl rfl ?_
    rw [show nI i + Int32.ofInt 1 = nI (i + 1) from nI_1 i]
    exact ih (i + 1) (by omega)
theorem s_fixedAt {p n : Nat} (h : am_get S 1 = some (src fed total pos lim idp fk fp)) (hB : am_get S 2 = some (.inl (2, 960, .inl fb))) (hpn : p + n ≤ 960) :
    ev X (d + 1) 46 [.ref 1, .int (nI p), .int (nI n)] S (fun r => r = (.inl (some (.long (fx (by8 fb) p n))), S)) := by
  refine ev_wp (L0 := [some (.ref 1), some (.int (nI p)), some (.int (nI n)), none, none, none]) (Nat.le_of_ble_eq_true rfl) rfl ?_
  refine wp_step rfl rfl ?_
  refine wp_step rfl rfl ?_
  refine wp_step rfl rfl ?_
  refine wp_step rfl rfl ?_
  exact fixedAt_loop (Q := fun r => r = (.inl (some (.long (fx (by8 fb) p n))), S)) h hB hpn rfl n 0 (by omega)
theorem s_fixed {n : Nat} (h : am_get S 1 = some (src fed total pos lim idp fk fp)) (hB : am_get S 2 = some (.inl (2, 960, .inl fb))) (hl : lim ≤ 960) (hp : pos ≤ lim) (hn : n ≤ 960) :
    ev X (d + 2) 47 [.ref 1, .int (nI n)] S (fun r => (pos + n ≤ lim ∧ r = (.inl (some (.long (fx (by8 fb) pos n))), am_upd S 1 (src fed total (pos + n) lim idp fk fp))) ∨ (¬ pos + n ≤ lim ∧ r = (.inr IAE, am_thrown (am_upd S 1 (src fed total pos lim idp 2 (nI pos)))))) := by
  refine ev_wp (L0 := [some (.ref 1), some (.int (nI n)), none]) (Nat.le_of_ble_eq_true rfl) rfl ?_
  refine wp_step rfl rfl ?_
  refine wp_getg rfl h (by decide) rfl ?_
  refine wp_step rfl rfl ?_
  refine wp_step rfl rfl ?_
  refine wp_step rfl rfl ?_
  refine wp_getg rfl h (by decide) rfl ?_
  refine wp_step rfl rfl ?_
  refine wp_step rfl rfl ?_
  rw [pk_sub hp]
  refine wp_icmp rfl (fun c1 => ?_) (fun c1 => ?_)
  · have h1 : n ≤ lim - pos := (nI_leI (by omega) (by omega)).mp (of_decide_eq_true c1)
    refine wp_step rfl rfl ?_
    refine wp_step rfl rfl ?_
    refine wp_step rfl rfl ?_
    refine wp_step rfl rfl ?_
    refine wp_putg rfl h (by decide) rfl rfl ?_
    rw [nI_add, srcG_3]
    refine wp_step rfl rfl ?_
    refine wp_step rfl rfl ?_
    refine wp_step rfl rfl ?_
    refine wp_call rfl rfl (by decide) rfl (recv_ok (am_get_self h) rfl) (s_fixedAt (am_get_self h) (by rw [am_get_ne (by decide)]; exact hB) (by omega)) (fun v T hq => ?_) (fun E T hq => by cases hq)
    cases hq
    exact wp_lret rfl rfl (Or.inl ⟨by omega, rfl⟩)
  · have h1 : ¬ n ≤ lim - pos := fun h9 => of_decide_eq_false c1 ((nI_leI (by omega) (by omega)).mpr h9)
    refine wp_step rfl rfl ?_
    refine wp_step rfl rfl ?_
    refine wp_step rfl rfl ?_
    refine wp_call rfl rfl (by decide) rfl (recv_ok h rfl) (s_fail _ _ h) (fun v T hq => by cases hq) (fun E T hq => ?_)
    cases hq
    exact Or.inl ⟨rfl, Or.inr ⟨by omega, rfl⟩⟩
theorem fx1 (B : Nat → Int32) (p : Nat) : (fx B p 1).toInt32 = B p := by
  have e : fx B p 1 = (B p).toInt64 := by
    show ((0 : Int64) <<< _) ||| (B (p + 0)).toInt64 = _
    rw [Nat.add_zero]
    apply Int64.toBitVec_inj.mp
    simp
  rw [e]
  exact Int32.toInt32_toInt64 _
theorem s_oneByte (h : am_get S 1 = some (src fed total pos lim idp fk fp)) (hB : am_get S 2 = some (.inl (2, 960, .inl fb))) (hl : lim ≤ 960) (hp : pos ≤ lim) :
    ev X (d + 3) 48 [.ref 1] S (fun r => (pos < lim ∧ r = (.inl (some (.int (by8 fb pos))), am_upd S 1 (src fed total (pos + 1) lim idp fk fp))) ∨ (¬ pos < lim ∧ r = (.inr IAE, am_thrown (am_upd S 1 (src fed total pos lim idp 2 (nI pos)))))) := by
  refine ev_wp (L0 := [some (.ref 1)]) (Nat.le_of_ble_eq_true rfl) rfl ?_
  refine wp_step rfl rfl ?_
  refine wp_step rfl rfl ?_
  refine wp_call rfl rfl (by decide) rfl (recv_ok h rfl) (s_fixed (n := 1) h hB hl hp (by decide)) (fun v T hq => ?_) (fun E T hq => ?_)
  · rcases hq with ⟨h1, e⟩ | ⟨h1, e⟩
    · cases e
      refine wp_step rfl rfl ?_
      rw [fx1]
      exact wp_iret rfl rfl rfl (Or.inl ⟨by omega, rfl⟩)
    · cases e
  · rcases hq with ⟨h1, e⟩ | ⟨h1, e⟩
    · cases e
    · cases e
      exact Or.inl ⟨rfl, Or.inr ⟨by omega, rfl⟩⟩
theorem s_eventEnd (h : am_get S 1 = some (src fed total pos lim idp fk fp)) (hl : lim ≤ 960) (hp : pos ≤ 960) :
    ev X (d + 2) 52 [.ref 1] S (fun r => (lim ≤ pos ∧ r = (.inl none, S)) ∨ (pos < lim ∧ r = (.inr IAE, am_thrown (am_upd S 1 (src fed total pos lim idp 5 (nI pos)))))) := by
  refine ev_wp (L0 := [some (.ref 1)]) (Nat.le_of_ble_eq_true rfl) rfl ?_
  refine wp_step rfl rfl ?_
  refine wp_getg rfl h (by decide) rfl ?_
  refine wp_step rfl rfl ?_
  refine wp_getg rfl h (by decide) rfl ?_
  refine wp_icmp rfl (fun c1 => ?_) (fun c1 => ?_)
  · have h1 : lim ≤ pos := (nI_leI (by omega) (by omega)).mp (of_decide_eq_true c1)
    exact wp_vret rfl rfl (Or.inl ⟨h1, rfl⟩)
  · have h1 : ¬ lim ≤ pos := fun h9 => of_decide_eq_false c1 ((nI_leI (by omega) (by omega)).mpr h9)
    refine wp_step rfl rfl ?_
    refine wp_step rfl rfl ?_
    refine wp_step rfl rfl ?_
    refine wp_getg rfl h (by decide) rfl ?_
    refine wp_call rfl rfl (by decide) rfl (recv_ok h rfl) (s_fail _ _ h) (fun v T hq => by cases hq) (fun E T hq => ?_)
    cases hq
    exact Or.inl ⟨rfl, Or.inr ⟨by omega, rfl⟩⟩
theorem s_rewind (h : am_get S 1 = some (src fed total pos lim idp fk fp)) :
    ev X (d + 1) 43 [.ref 1] S (fun r => r = (.inl (some (.int (nI fed))), am_upd S 1 (src 0 fed pos lim idp 0 (-1)))) := by
  refine ev_wp (L0 := [some (.ref 1)]) (Nat.le_of_ble_eq_true rfl) rfl ?_
  refine wp_step rfl rfl ?_
  refine wp_step rfl rfl ?_
  refine wp_getg (v := .int (nI fed)) rfl h (by decide) rfl ?_
  refine wp_putg rfl h (by decide) rfl rfl ?_
  rw [srcG_2]
  refine wp_step rfl rfl ?_
  refine wp_step rfl rfl ?_
  refine wp_putg rfl (am_get_self h) (by decide) rfl rfl ?_
  rw [am_upd_upd, show Int32.ofInt 0 = nI 0 from rfl, srcG_1]
  refine wp_step rfl rfl ?_
  refine wp_step rfl rfl ?_
  refine wp_putg rfl (am_get_self h) (by decide) rfl rfl ?_
  rw [am_upd_upd, srcG_6]
  refine wp_step rfl rfl ?_
  refine wp_step rfl rfl ?_
  refine wp_putg rfl (am_get_self h) (by decide) rfl rfl ?_
  rw [am_upd_upd, srcG_7]
  refine wp_step rfl rfl ?_
  refine wp_getg rfl (am_get_self h) (by decide) rfl ?_
  exact wp_iret rfl rfl rfl rfl
end SRC2
