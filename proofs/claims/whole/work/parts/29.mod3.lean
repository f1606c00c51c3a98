/-! FlightReaderModel: counts, heads, numbers of two and four bytes -/
section MOD3
variable {X : Nat × (Nat → Int32)} {d : Nat} {S : am_S} {g : Nat → Value} {mb : Nat → Int32} {w p lim e : Nat}
theorem m_small0 (h : am_get S 408 = some (mod g)) (hb : am_get S 410 = some (.inl (0, 1920, .inl mb))) (g4 : g 4 = .ref 410) (g19 : g 19 = .int (nI w)) (hw : w ≤ 1) (g21 : g 21 = .int (nI p)) (g22 : g 22 = .int (nI lim)) (g25 : g 25 = .int 0) (hp : p ≤ 960) (hl : lim ≤ 960) (hbs : bytesOK (mB mb w)) :
    ev X (d + 3) 99 [.ref 408] S (fun r => (∃ n p', cnt (mB mb w) lim p = some (n, p') ∧ r = (.inl (some (.int (nI n))), am_upd S 408 (mod (va_up g 21 (.int (nI p')))))) ∨ (cnt (mB mb w) lim p = none ∧ ∃ q, q ≤ 960 ∧ r = (.inl (some (.int 0)), am_upd S 408 (mod (va_up (va_up (va_up g 21 (.int (nI q))) 26 (.int (nI p))) 25 (.int 2)))))) := by
  refine ev_wp (L0 := [some (.ref 408), none, none, none]) (Nat.le_of_ble_eq_true rfl) rfl ?_
  refine wp_step rfl rfl ?_
  refine wp_getg rfl h (by decide) g21 ?_
  refine wp_step rfl rfl ?_
  refine wp_step rfl rfl ?_
  refine wp_call rfl rfl (by decide) rfl (recv_ok h rfl) (m_comp0 h hb g4 g19 hw g21 g22 g25 hp hl hbs) (fun v T hq => ?_) (fun E T hq => by rcases hq with ⟨_, _, _, e9⟩ | ⟨_, _, _, _, e9⟩ <;> cases e9)
  rcases hq with ⟨v', p', hn, e9⟩ | ⟨hn, v', q, hq, e9⟩
  · cases e9
    have hpp := num9_pos hn
    have h1 := am_get_self (x := mod (va_up g 21 (.int (nI p')))) h
    have bad : (v' < 0 ∨ 2147483648 ≤ v') → wp X (d + 2) 99 31 [some (.ref 408), some (.int (nI p)), some (.long v'), none] [] (am_upd S 408 (mod (va_up g 21 (.int (nI p'))))) (fun r => (∃ n p', cnt (mB mb w) lim p = some (n, p') ∧ r = (.inl (some (.int (nI n))), am_upd S 408 (mod (va_up g 21 (.int (nI p')))))) ∨ (cnt (mB mb w) lim p = none ∧ ∃ q, q ≤ 960 ∧ r = (.inl (some (.int 0)), am_upd S 408 (mod (va_up (va_up (va_up g 21 (.int (nI q))) 26 (.int (nI p))) 25 (.int 2)))))) := by
      intro hbad
      refine wp_step rfl rfl ?_
      refine wp_step rfl rfl ?_
      refine wp_step rfl rfl ?_
      refine wp_call rfl rfl (by decide) rfl (recv_ok h1 rfl) (ev_up (by omega) (m_wrong0 (d := 0) _ _ h1 g25)) (fun v T hq => ?_) (fun E T hq => by cases hq)
      cases hq
      rw [am_upd_upd]
      refine wp_step rfl rfl ?_
      refine wp_getg (v := .int (Int32.ofInt 2)) rfl (am_get_self h) (by decide) rfl ?_
      refine wp_if_t rfl (by decide) ?_
      refine wp_step rfl rfl ?_
      refine wp_iret rfl rfl rfl (Or.inr ⟨?_, p', by omega, rfl⟩)
      unfold cnt; rw [hn]; exact if_pos hbad
    refine wp_step rfl rfl ?_
    refine wp_step rfl rfl ?_
    refine wp_getg (v := .int 0) rfl h1 (by decide) g25 ?_
    refine wp_if_f rfl (by decide) ?_
    refine wp_step rfl rfl ?_
    refine wp_step rfl rfl ?_
    refine wp_step rfl rfl ?_
    refine wp_if rfl (fun c1 => ?_) (fun c1 => ?_)
    · exact bad (Or.inl ((lg_cmp_lt v' 0).mp (of_decide_eq_true c1)))
    · have h0 : ¬ v' < 0 := fun h9 => of_decide_eq_false c1 ((lg_cmp_lt v' 0).mpr h9)
      refine wp_step rfl rfl ?_
      refine wp_step rfl rfl ?_
      refine wp_step rfl rfl ?_
      refine wp_if rfl (fun c2 => ?_) (fun c2 => ?_)
      · have h2 : v' ≤ 2147483647 := (lg_cmp_le v' 2147483647).mp (of_decide_eq_true c2)
        have h3 : ¬ 2147483648 ≤ v' := by
          intro h9
          rw [Int64.le_iff_toInt_le] at h2 h9
          have e1 : (2147483647 : Int64).toInt = 2147483647 := by decide
          have e2 : (2147483648 : Int64).toInt = 2147483648 := by decide
          omega
        refine wp_step rfl rfl ?_
        refine wp_getg (v := .int 0) rfl h1 (by decide) g25 ?_
        refine wp_if_f rfl (by decide) ?_
        refine wp_step rfl rfl ?_
        refine wp_step rfl rfl ?_
        refine wp_step rfl rfl ?_
        refine wp_iret rfl rfl rfl (Or.inl ⟨v'.toInt.toNat, p', ?_, ?_⟩)
        · unfold cnt; rw [hn]; exact if_neg (fun h9 => h9.elim h0 h3)
        · rw [(l2i_nat h0 h3).1]
      · have h2 : ¬ v' ≤ 2147483647 := fun h9 => of_decide_eq_false c2 ((lg_cmp_le v' 2147483647).mpr h9)
        refine bad (Or.inr ?_)
        rw [Int64.le_iff_toInt_le] at h2 ⊢
        have e1 : (2147483647 : Int64).toInt = 2147483647 := by decide
        have e2 : (2147483648 : Int64).toInt = 2147483648 := by decide
        omega
  · cases e9
    refine wp_step rfl rfl ?_
    refine wp_step rfl rfl ?_
    refine wp_getg (v := .int 2) rfl (am_get_self h) (by decide) rfl ?_
    refine wp_if_t rfl (by decide) ?_
    refine wp_step rfl rfl ?_
    refine wp_getg (v := .int 2) rfl (am_get_self h) (by decide) rfl ?_
    refine wp_if_t rfl (by decide) ?_
    refine wp_step rfl rfl ?_
    refine wp_iret rfl rfl rfl (Or.inr ⟨?_, q, hq, rfl⟩)
    unfold cnt; rw [hn]
theorem m_small1 {f : Int32} (h : am_get S 408 = some (mod g)) (g21 : g 21 = .int (nI p)) (g25 : g 25 = .int f) (hf : f ≠ 0) :
    ev X (d + 3) 99 [.ref 408] S (fun r => r = (.inl (some (.int 0)), S)) := by
  refine ev_wp (L0 := [some (.ref 408), none, none, none]) (Nat.le_of_ble_eq_true rfl) rfl ?_
  refine wp_step rfl rfl ?_
  refine wp_getg rfl h (by decide) g21 ?_
  refine wp_step rfl rfl ?_
  refine wp_step rfl rfl ?_
  refine wp_call rfl rfl (by decide) rfl (recv_ok h rfl) (m_comp1 h g21 g25 hf) (fun v T hq => ?_) (fun E T hq => by cases hq)
  cases hq
  refine wp_step rfl rfl ?_
  refine wp_step rfl rfl ?_
  refine wp_getg rfl h (by decide) g25 ?_
  refine wp_if_t rfl (c1_ne0 hf) ?_
  refine wp_step rfl rfl ?_
  refine wp_getg rfl h (by decide) g25 ?_
  refine wp_if_t rfl (c1_ne0 hf) ?_
  refine wp_step rfl rfl ?_
  exact wp_iret rfl rfl rfl rfl
/-- two bytes, the higher first -/
def tw (B : Nat → Int32) (p : Nat) : Int32 := (B p <<< ((8 : Int32) &&& 31)) ||| B (p + 1)
def fo (B : Nat → Int32) (p : Nat) : Int64 := ((tw B p).toInt64 <<< ((16 : Int32).toInt64 &&& 63)) ||| (tw B (p + 2)).toInt64
theorem m_two (h : am_get S 408 = some (mod g)) (hb : am_get S 410 = some (.inl (0, 1920, .inl mb))) (g4 : g 4 = .ref 410) (g19 : g 19 = .int (nI w)) (hw : w ≤ 1) (hp : p + 1 < 960) :
    ev X (d + 2) 100 [.ref 408, .int (nI p)] S (fun r => r = (.inl (some (.int (tw (mB mb w) p))), S)) := by
  refine ev_wp (L0 := [some (.ref 408), some (.int (nI p))]) (Nat.le_of_ble_eq_true rfl) rfl ?_
  refine wp_step rfl rfl ?_
  refine wp_step rfl rfl ?_
  refine wp_call rfl rfl (by decide) rfl (recv_ok h rfl) (m_get h hb g4 g19 hw (by omega)) (fun v T hq => ?_) (fun E T hq => by cases hq)
  cases hq
  refine wp_step rfl rfl ?_
  refine wp_step rfl rfl ?_
  refine wp_step rfl rfl ?_
  refine wp_step rfl rfl ?_
  refine wp_step rfl rfl ?_
  refine wp_step rfl rfl ?_
  rw [show nI p + Int32.ofInt 1 = nI (p + 1) from nI_1 p]
  refine wp_call rfl rfl (by decide) rfl (recv_ok h rfl) (m_get h hb g4 g19 hw (by omega)) (fun v T hq => ?_) (fun E T hq => by cases hq)
  cases hq
  refine wp_step rfl rfl ?_
  exact wp_iret rfl rfl rfl rfl
theorem m_four (h : am_get S 408 = some (mod g)) (hb : am_get S 410 = some (.inl (0, 1920, .inl mb))) (g4 : g 4 = .ref 410) (g19 : g 19 = .int (nI w)) (hw : w ≤ 1) (hp : p + 3 < 960) :
    ev X (d + 3) 101 [.ref 408, .int (nI p)] S (fun r => r = (.inl (some (.long (fo (mB mb w) p))), S)) := by
  refine ev_wp (L0 := [some (.ref 408), some (.int (nI p))]) (Nat.le_of_ble_eq_true rfl) rfl ?_
  refine wp_step rfl rfl ?_
  refine wp_step rfl rfl ?_
  refine wp_call rfl rfl (by decide) rfl (recv_ok h rfl) (m_two h hb g4 g19 hw (by omega)) (fun v T hq => ?_) (fun E T hq => by cases hq)
  cases hq
  refine wp_step rfl rfl ?_
  refine wp_step rfl rfl ?_
  refine wp_step rfl rfl ?_
  refine wp_step rfl rfl ?_
  refine wp_step rfl rfl ?_
  refine wp_step rfl rfl ?_
  refine wp_step rfl rfl ?_
  rw [show nI p + Int32.ofInt 2 = nI (p + 2) from nI_add p 2]
  refine wp_call rfl rfl (by decide) rfl (recv_ok h rfl) (m_two h hb g4 g19 hw (by omega)) (fun v T hq => ?_) (fun E T hq => by cases hq)
  cases hq
  refine wp_step rfl rfl ?_
  refine wp_step rfl rfl ?_
  exact wp_lret rfl rfl rfl
end MOD3
