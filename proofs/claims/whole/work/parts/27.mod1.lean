/-! FlightReaderModel: the byte reader -/
abbrev mod (g : Nat → Value) : am_C := ob 10 58 g
/-- the side's bytes -/
abbrev mB (mb : Nat → Int32) (w : Nat) : Nat → Int32 := fun p => mb (960 * w + p)
theorem c1_ne0 {x : Int32} (h : x ≠ 0) : am_c1 .ne x = true := decide_eq_true h
theorem c1_eq0 {x : Int32} (h : x ≠ 0) : am_c1 .eq x = false := decide_eq_false h
section MOD1
variable {X : Nat × (Nat → Int32)} {d : Nat} {S : am_S} {g : Nat → Value} {mb : Nat → Int32} {w p lim : Nat}
theorem m_get (h : am_get S 408 = some (mod g)) (hb : am_get S 410 = some (.inl (0, 1920, .inl mb))) (g4 : g 4 = .ref 410) (g19 : g 19 = .int (nI w)) (hw : w ≤ 1) (hp : p < 960) :
    ev X (d + 1) 95 [.ref 408, .int (nI p)] S (fun r => r = (.inl (some (.int (mB mb w p))), S)) := by
  refine ev_wp (L0 := [some (.ref 408), some (.int (nI p))]) (Nat.le_of_ble_eq_true rfl) rfl ?_
  refine wp_step rfl rfl ?_
  refine wp_getg rfl h (by decide) g4 ?_
  refine wp_step rfl rfl ?_
  refine wp_step rfl rfl ?_
  refine wp_getg rfl h (by decide) g19 ?_
  refine wp_step rfl rfl ?_
  refine wp_step rfl rfl ?_
  refine wp_step rfl rfl ?_
  rw [show (Int16.ofInt 960).toInt32 * nI w + nI p = nI (960 * w + p) by rw [show (Int16.ofInt 960).toInt32 = nI 960 from rfl, pk_mul, nI_add]]
  refine wp_ald rfl (Or.inl ⟨rfl, rfl⟩) (by decide) hb (am_in_nI (by omega) (by decide)) ?_
  rw [nI_clamp (by omega)]
  exact wp_iret rfl rfl rfl rfl
theorem m_wrong0 (a b : Int32) (h : am_get S 408 = some (mod g)) (g25 : g 25 = .int 0) :
    ev X (d + 1) 96 [.ref 408, .int a, .int b] S (fun r => r = (.inl none, am_upd S 408 (mod (va_up (va_up g 26 (.int b)) 25 (.int a))))) := by
  refine ev_wp (L0 := [some (.ref 408), some (.int a), some (.int b)]) (Nat.le_of_ble_eq_true rfl) rfl ?_
  refine wp_step rfl rfl ?_
  refine wp_getg rfl h (by decide) g25 ?_
  refine wp_if_f rfl (by decide) ?_
  refine wp_step rfl rfl ?_
  refine wp_step rfl rfl ?_
  refine wp_putg rfl h (by decide) rfl rfl ?_
  refine wp_step rfl rfl ?_
  refine wp_step rfl rfl ?_
  refine wp_getg (v := .int 0) rfl (am_get_self h) (by decide) g25 ?_
  refine wp_if_f rfl (by decide) ?_
  refine wp_step rfl rfl ?_
  refine wp_step rfl rfl ?_
  refine wp_putg rfl (am_get_self h) (by decide) rfl rfl ?_
  rw [am_upd_upd]
  exact wp_vret rfl rfl rfl
theorem m_wrong1 (a b : Int32) {f : Int32} (h : am_get S 408 = some (mod g)) (g25 : g 25 = .int f) (hf : f ≠ 0) :
    ev X (d + 1) 96 [.ref 408, .int a, .int b] S (fun r => r = (.inl none, S)) := by
  refine ev_wp (L0 := [some (.ref 408), some (.int a), some (.int b)]) (Nat.le_of_ble_eq_true rfl) rfl ?_
  refine wp_step rfl rfl ?_
  refine wp_getg rfl h (by decide) g25 ?_
  refine wp_if_t rfl (c1_ne0 hf) ?_
  refine wp_step rfl rfl ?_
  refine wp_step rfl rfl ?_
  refine wp_getg rfl h (by decide) g25 ?_
  refine wp_if_t rfl (c1_ne0 hf) ?_
  refine wp_step rfl rfl ?_
  refine wp_getg rfl h (by decide) g25 ?_
  refine wp_putg rfl h (by decide) rfl rfl ?_
  rw [va_up_id g25, am_upd_same h]
  exact wp_vret rfl rfl rfl
theorem m_next0 (h : am_get S 408 = some (mod g)) (hb : am_get S 410 = some (.inl (0, 1920, .inl mb))) (g4 : g 4 = .ref 410) (g19 : g 19 = .int (nI w)) (hw : w ≤ 1) (g21 : g 21 = .int (nI p)) (g22 : g 22 = .int (nI lim)) (g25 : g 25 = .int 0) (hp : p ≤ 960) (hl : lim ≤ 960) :
    ev X (d + 2) 97 [.ref 408] S (fun r => (p < lim ∧ r = (.inl (some (.int (mB mb w p))), am_upd S 408 (mod (va_up g 21 (.int (nI (p + 1))))))) ∨ (¬ p < lim ∧ r = (.inl (some (.int 0)), am_upd S 408 (mod (va_up (va_up g 26 (.int (nI p))) 25 (.int 2)))))) := by
  refine ev_wp (L0 := [some (.ref 408)]) (Nat.le_of_ble_eq_true rfl) rfl ?_
  refine wp_step rfl rfl ?_
  refine wp_getg rfl h (by decide) g21 ?_
  refine wp_step rfl rfl ?_
  refine wp_getg rfl h (by decide) g22 ?_
  refine wp_icmp rfl (fun c1 => ?_) (fun c1 => ?_)
  · have hpl : p < lim := (c2_lt (by omega) (by omega) c1).mpr rfl
    refine wp_step rfl rfl ?_
    refine wp_getg rfl h (by decide) g25 ?_
    refine wp_if_t rfl (by decide) ?_
    refine wp_step rfl rfl ?_
    refine wp_step rfl rfl ?_
    refine wp_getg rfl h (by decide) g21 ?_
    refine wp_step rfl rfl ?_
    refine wp_step rfl rfl ?_
    rw [show nI p + Int32.ofInt 1 = nI (p + 1) from nI_1 p]
    refine wp_putg rfl h (by decide) rfl rfl ?_
    refine wp_step rfl rfl ?_
    refine wp_step rfl rfl ?_
    refine wp_getg (v := .int (nI (p + 1))) rfl (am_get_self h) (by decide) rfl ?_
    refine wp_step rfl rfl ?_
    refine wp_step rfl rfl ?_
    rw [show nI (p + 1) - Int32.ofInt 1 = nI p from nI_pred p]
    refine wp_call rfl rfl (by decide) rfl (recv_ok (am_get_self h) rfl) (m_get (am_get_self h) (by rw [am_get_ne (by decide)]; exact hb) g4 g19 hw (by omega)) (fun v T hq => ?_) (fun E T hq => by cases hq)
    cases hq
    exact wp_iret rfl rfl rfl (Or.inl ⟨hpl, rfl⟩)
  · have hpl : ¬ p < lim := fun h9 => by have h8 := (c2_lt (by omega) (by omega) c1).mp h9; cases h8
    refine wp_step rfl rfl ?_
    refine wp_step rfl rfl ?_
    refine wp_step rfl rfl ?_
    refine wp_getg rfl h (by decide) g21 ?_
    refine wp_call rfl rfl (by decide) rfl (recv_ok h rfl) (m_wrong0 _ _ h g25) (fun v T hq => ?_) (fun E T hq => by cases hq)
    cases hq
    refine wp_step rfl rfl ?_
    refine wp_getg (v := .int (Int32.ofInt 2)) rfl (am_get_self h) (by decide) rfl ?_
    refine wp_if_f rfl (by decide) ?_
    refine wp_step rfl rfl ?_
    exact wp_iret rfl rfl rfl (Or.inr ⟨hpl, rfl⟩)
theorem m_next1 {f : Int32} (h : am_get S 408 = some (mod g)) (g21 : g 21 = .int (nI p)) (g22 : g 22 = .int (nI lim)) (g25 : g 25 = .int f) (hf : f ≠ 0) :
    ev X (d + 2) 97 [.ref 408] S (fun r => r = (.inl (some (.int 0)), S)) := by
  refine ev_wp (L0 := [some (.ref 408)]) (Nat.le_of_ble_eq_true rfl) rfl ?_
  have fin : wp X (d + 1) 97 20 [some (.ref 408)] [] S (fun r => r = (.inl (some (.int 0)), S)) := by
    refine wp_step rfl rfl ?_
    refine wp_getg rfl h (by decide) g25 ?_
    refine wp_if_f rfl (c1_eq0 hf) ?_
    refine wp_step rfl rfl ?_
    exact wp_iret rfl rfl rfl rfl
  refine wp_step rfl rfl ?_
  refine wp_getg rfl h (by decide) g21 ?_
  refine wp_step rfl rfl ?_
  refine wp_getg rfl h (by decide) g22 ?_
  refine wp_icmp rfl (fun c1 => fin) (fun c1 => ?_)
  refine wp_step rfl rfl ?_
  refine wp_step rfl rfl ?_
  refine wp_step rfl rfl ?_
  refine wp_getg rfl h (by decide) g21 ?_
  refine wp_call rfl rfl (by decide) rfl (recv_ok h rfl) (m_wrong1 _ _ h g25 hf) (fun v T hq => ?_) (fun E T hq => by cases hq)
  cases hq
  exact fin
end MOD1
