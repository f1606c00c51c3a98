/-! FlightReaderModel: numbers -/
/-- every byte of a side is one -/
def bytesOK (B : Nat → Int32) : Prop := ∀ j, j < 960 → ∃ n, n < 256 ∧ B j = nI n
theorem and127 {x : Int32} {n : Nat} (hx : x = nI n) (hn : n < 256) (h : x < 128) : x &&& 127 = x := by
  subst hx
  have h1 : n < 128 := (nI_ltI (by omega) (by decide)).mp (show nI n < nI 128 from h)
  rw [pk_andN (by omega) 7 rfl, Nat.mod_eq_of_lt (by omega)]
theorem c2_ge {a b : Nat} (ha : a < 2 ^ 31) (hb : b < 2 ^ 31) {t : Bool} (h : am_c2 .ge (nI a) (nI b) = t) : (b ≤ a ↔ t = true) := by
  unfold am_c2 at h
  rw [← h, decide_eq_true_iff, nI_leI hb ha]
section MOD2
variable {X : Nat × (Nat → Int32)} {d : Nat} {S : am_S} {g : Nat → Value} {mb : Nat → Int32} {w p p0 lim : Nat} {Q : am_R → Prop}
theorem comp_out {L5 x6 : Option Value} {v : Int64} {m4 : Option Value} {x1 : Option Value} (hQ : Q (.inl (some (.long v)), S)) : wp X d 98 126 [some (.ref 408), x1, some (.long v), none, m4, L5, x6] [] S Q := by
  refine wp_step rfl rfl ?_
  exact wp_lret rfl rfl hQ
set_option maxHeartbeats 1000000 in
theorem comp_turn (hw : w ≤ 1) (hl : lim ≤ 960) (hbs : bytesOK (mB mb w)) {n k : Nat} {v : Int64} {x6 : Option Value} (hk : k + n = 8) (h : am_get S 408 = some (mod g)) (hb : am_get S 410 = some (.inl (0, 1920, .inl mb))) (g4 : g 4 = .ref 410) (g19 : g 19 = .int (nI w)) (g21 : g 21 = .int (nI p)) (g22 : g 22 = .int (nI lim)) (g25 : g 25 = .int 0) (hp : p ≤ 960)
    (hret : ∀ v' p', cnum (mB mb w) lim (n + 1) k p v = some (v', p') → Q (.inl (some (.long v')), am_upd S 408 (mod (va_up g 21 (.int (nI p'))))))
    (hthr : cnum (mB mb w) lim (n + 1) k p v = none → ∀ (v' : Int64) (q : Nat), q ≤ 960 → Q (.inl (some (.long v')), am_upd S 408 (mod (va_up (va_up (va_up g 21 (.int (nI q))) 26 (.int (nI p0))) 25 (.int 2)))))
    (hnext : ∀ x6, k < 8 → p < lim → ¬ mB mb w p < 128 → wp X (d + 1) 98 13 [some (.ref 408), some (.int (nI p0)), some (.long (v ||| ((mB mb w p &&& 127).toInt64 <<< ((nI (7 * k)).toInt64 &&& 63)))), none, some (.int 1), some (.int (nI (k + 1))), x6] [] (am_upd S 408 (mod (va_up g 21 (.int (nI (p + 1)))))) Q) :
    wp X (d + 1) 98 13 [some (.ref 408), some (.int (nI p0)), some (.long (v)), none, some (.int 1), some (.int (nI (k))), x6] [] S Q := by
  refine wp_step rfl rfl ?_
  refine wp_step rfl rfl ?_
  refine wp_icmp_f rfl (show am_c2 .ge (nI k) (nI 9) = false from decide_eq_false (nI_ge (by omega) (by decide))) ?_
  refine wp_step rfl rfl ?_
  refine wp_if_f rfl (by decide) ?_
  refine wp_step rfl rfl ?_
  refine wp_getg rfl h (by decide) g25 ?_
  refine wp_if_f rfl (by decide) ?_
  refine wp_step rfl rfl ?_
  refine wp_getg rfl h (by decide) g21 ?_
  refine wp_step rfl rfl ?_
  refine wp_getg rfl h (by decide) g22 ?_
  refine wp_icmp rfl (fun c1 => ?_) (fun c1 => ?_)
  · have hpl : p < lim := (c2_lt (by omega) (by omega) c1).mpr rfl
    refine wp_step rfl rfl ?_
    refine wp_step rfl rfl ?_
    refine wp_getg rfl h (by decide) g21 ?_
    refine wp_call rfl rfl (by decide) rfl (recv_ok h rfl) (m_get h hb g4 g19 hw (by omega)) (fun v9 T hq => ?_) (fun E T hq => by cases hq)
    cases hq
    refine wp_step rfl rfl ?_
    refine wp_step rfl rfl ?_
    refine wp_step rfl rfl ?_
    refine wp_getg rfl h (by decide) g21 ?_
    refine wp_step rfl rfl ?_
    refine wp_step rfl rfl ?_
    rw [show nI p + Int32.ofInt 1 = nI (p + 1) from nI_1 p]
    refine wp_putg rfl h (by decide) rfl rfl ?_
    refine wp_step rfl rfl ?_
    refine wp_step rfl rfl ?_
    refine wp_step rfl rfl ?_
    obtain ⟨bn, hbn, hbe⟩ := hbs p (by omega)
    -- the end of a turn, with what was read
    have tail : ∀ (u : Int64), (8 ≤ k ∨ mB mb w p < 128 → u = v ||| ((mB mb w p).toInt64 <<< ((nI (7 * k)).toInt64 &&& 63))) → (¬ (8 ≤ k ∨ mB mb w p < 128) → u = v ||| ((mB mb w p &&& 127).toInt64 <<< ((nI (7 * k)).toInt64 &&& 63))) →
        wp X (d + 1) 98 99 [some (.ref 408), some (.int (nI p0)), some (.long u), none, some (.int 1), some (.int (nI k)), some (.int (mB mb w p))] [] (am_upd S 408 (mod (va_up g 21 (.int (nI (p + 1)))))) Q := by
      intro u hu1 hu2
      have last : (8 ≤ k ∨ mB mb w p < 128) → wp X (d + 1) 98 117 [some (.ref 408), some (.int (nI p0)), some (.long u), none, some (.int 1), some (.int (nI k)), some (.int (mB mb w p))] [] (am_upd S 408 (mod (va_up g 21 (.int (nI (p + 1)))))) Q := by
        intro hd
        refine wp_step rfl rfl ?_
        refine wp_step rfl rfl ?_
        refine wp_step rfl rfl ?_
        refine wp_step rfl rfl ?_
        rw [show nI k + Int32.ofInt 1 = nI (k + 1) from nI_1 k]
        refine wp_step rfl rfl ?_
        refine wp_step rfl rfl ?_
        have hq : Q (.inl (some (.long u)), am_upd S 408 (mod (va_up g 21 (.int (nI (p + 1)))))) := hret u (p + 1) (by simp only [cnum]; rw [if_neg (by omega), if_pos hd, hu1 hd])
        refine wp_icmp rfl (fun _ => comp_out hq) (fun _ => ?_)
        refine wp_step rfl rfl ?_
        refine wp_if_t rfl (by decide) ?_
        exact comp_out hq
      refine wp_step rfl rfl ?_
      refine wp_step rfl rfl ?_
      refine wp_icmp rfl (fun c2 => ?_) (fun c2 => ?_)
      · exact last (Or.inl ((c2_ge (by omega) (by decide) (show am_c2 .ge (nI k) (nI 8) = true from c2)).mpr rfl))
      · have hk8 : ¬ 8 ≤ k := fun h9 => by have h8 := (c2_ge (by omega) (by decide) (show am_c2 .ge (nI k) (nI 8) = false from c2)).mp h9; cases h8
        refine wp_step rfl rfl ?_
        refine wp_step rfl rfl ?_
        refine wp_icmp rfl (fun c3 => ?_) (fun c3 => ?_)
        · refine last (Or.inr ?_)
          have h9 : mB mb w p ≤ 127 := of_decide_eq_true (show am_c2 .le (mB mb w p) 127 = true from c3)
          rw [hbe] at h9 ⊢
          have h10 := (nI_leI (by omega) (by decide)).mp (show nI bn ≤ nI 127 from h9)
          exact (nI_ltI (by omega) (by decide)).mpr (show bn < 128 by omega)
        · have h9 : ¬ mB mb w p ≤ 127 := of_decide_eq_false (show am_c2 .le (mB mb w p) 127 = false from c3)
          have hge : ¬ mB mb w p < 128 := by
            intro h10
            apply h9
            rw [hbe] at h10 ⊢
            have h11 := (nI_ltI (by omega) (by decide)).mp (show nI bn < nI 128 from h10)
            exact (nI_leI (by omega) (by decide)).mpr (show bn ≤ 127 by omega)
          refine wp_step rfl rfl ?_
          refine wp_step rfl rfl ?_
          refine wp_step rfl rfl ?_
          refine wp_step rfl rfl ?_
          rw [show nI k + Int32.ofInt 1 = nI (k + 1) from nI_1 k]
          refine wp_step rfl rfl ?_
          rw [hu2 (fun h9 => h9.elim hk8 hge)]
          exact hnext _ (by omega) hpl hge
    refine wp_icmp rfl (fun c2 => ?_) (fun c2 => ?_)
    · have hk8 : 8 ≤ k := (c2_ge (by omega) (by decide) (show am_c2 .ge (nI k) (nI 8) = true from c2)).mpr rfl
      refine wp_step rfl rfl ?_
      refine wp_step rfl rfl ?_
      refine wp_step rfl rfl ?_
      refine wp_step rfl rfl ?_
      refine wp_step rfl rfl ?_
      rw [show (Int8.ofInt 7).toInt32 * nI k = nI (7 * k) from pk_mul 7 k]
      refine wp_step rfl rfl ?_
      refine wp_step rfl rfl ?_
      refine wp_step rfl rfl ?_
      exact tail _ (fun _ => rfl) (fun h9 => absurd (Or.inl hk8) h9)
    · have hk8 : ¬ 8 ≤ k := fun h9 => by have h8 := (c2_ge (by omega) (by decide) (show am_c2 .ge (nI k) (nI 8) = false from c2)).mp h9; cases h8
      refine wp_step rfl rfl ?_
      refine wp_step rfl rfl ?_
      refine wp_step rfl rfl ?_
      refine wp_step rfl rfl ?_
      refine wp_step rfl rfl ?_
      refine wp_step rfl rfl ?_
      refine wp_step rfl rfl ?_
      refine wp_step rfl rfl ?_
      rw [show (Int8.ofInt 7).toInt32 * nI k = nI (7 * k) from pk_mul 7 k]
      refine wp_step rfl rfl ?_
      refine wp_step rfl rfl ?_
      refine wp_step rfl rfl ?_
      refine tail _ (fun h9 => ?_) (fun _ => rfl)
      rw [show mB mb w p &&& (Int8.ofInt 127).toInt32 = mB mb w p from and127 hbe hbn (h9.resolve_left hk8)]
  · have hpl : ¬ p < lim := fun h9 => by have h8 := (c2_lt (by omega) (by omega) c1).mp h9; cases h8
    refine wp_step rfl rfl ?_
    refine wp_step rfl rfl ?_
    refine wp_step rfl rfl ?_
    refine wp_call rfl rfl (by decide) rfl (recv_ok h rfl) (m_wrong0 _ _ h g25) (fun v9 T hq => ?_) (fun E T hq => by cases hq)
    cases hq
    refine wp_step rfl rfl ?_
    refine wp_step rfl rfl ?_
    rw [show nI k + Int32.ofInt 1 = nI (k + 1) from nI_1 k]
    refine wp_step rfl rfl ?_
    refine wp_step rfl rfl ?_
    refine wp_step rfl rfl ?_
    have hq : Q (.inl (some (.long v)), am_upd S 408 (mod (va_up (va_up g 26 (.int (nI p0))) 25 (.int 2)))) := by
      have h9 := hthr (by simp only [cnum]; rw [if_pos (by omega)]) v p hp
      rw [va_up_id g21] at h9
      exact h9
    refine wp_icmp rfl (fun _ => comp_out hq) (fun _ => ?_)
    refine wp_step rfl rfl ?_
    refine wp_if_f rfl (by decide) ?_
    refine wp_step rfl rfl ?_
    refine wp_getg (v := .int 2) rfl (am_get_self h) (by decide) rfl ?_
    refine wp_if_t rfl (by decide) ?_
    exact comp_out hq
theorem comp_loop (hw : w ≤ 1) (hl : lim ≤ 960) (hbs : bytesOK (mB mb w)) :
    ∀ (n k p : Nat) (v : Int64) (x6 : Option Value) (S : am_S) (g : Nat → Value), k + n = 8 → am_get S 408 = some (mod g) → am_get S 410 = some (.inl (0, 1920, .inl mb)) → g 4 = .ref 410 → g 19 = .int (nI w) → g 21 = .int (nI p) → g 22 = .int (nI lim) → g 25 = .int 0 → p ≤ 960 →
      (∀ v' p', cnum (mB mb w) lim (n + 1) k p v = some (v', p') → Q (.inl (some (.long v')), am_upd S 408 (mod (va_up g 21 (.int (nI p')))))) →
      (cnum (mB mb w) lim (n + 1) k p v = none → ∀ (v' : Int64) (q : Nat), q ≤ 960 → Q (.inl (some (.long v')), am_upd S 408 (mod (va_up (va_up (va_up g 21 (.int (nI q))) 26 (.int (nI p0))) 25 (.int 2))))) →
      wp X (d + 1) 98 13 [some (.ref 408), some (.int (nI p0)), some (.long (v)), none, some (.int 1), some (.int (nI (k))), x6] [] S Q := by
  intro n
  induction n with
  | zero =>
    intro k p v x6 S g hk h hb g4 g19 g21 g22 g25 hp hret hthr
    exact comp_turn hw hl hbs hk h hb g4 g19 g21 g22 g25 hp hret hthr (fun _ h9 => absurd h9 (by omega))
  | succ n ih =>
    intro k p v x6 S g hk h hb g4 g19 g21 g22 g25 hp hret hthr
    refine comp_turn hw hl hbs hk h hb g4 g19 g21 g22 g25 hp hret hthr (fun x6 h8 hpl hge => ?_)
    have hc : cnum (mB mb w) lim (n + 1 + 1) k p v = cnum (mB mb w) lim (n + 1) (k + 1) (p + 1) (v ||| ((mB mb w p &&& 127).toInt64 <<< ((nI (7 * k)).toInt64 &&& 63))) := by
      rw [cnum]
      rw [if_neg (by omega), if_neg (fun h9 => h9.elim (fun h10 => absurd h10 (by omega)) hge)]
    refine ih (k + 1) (p + 1) _ _ _ (va_up g 21 (.int (nI (p + 1)))) (by omega) (am_get_self h) (by rw [am_get_ne (by decide)]; exact hb) g4 g19 rfl g22 g25 (by omega) (fun v' p' h9 => ?_) (fun h9 v' q hq => ?_)
    · have h10 := hret v' p' (by rw [hc]; exact h9)
      rw [am_upd_upd, va_up_up]
      exact h10
    · have h10 := hthr (by rw [hc]; exact h9) v' q hq
      rw [am_upd_upd, va_up_up]
      exact h10
theorem m_comp0 (h : am_get S 408 = some (mod g)) (hb : am_get S 410 = some (.inl (0, 1920, .inl mb))) (g4 : g 4 = .ref 410) (g19 : g 19 = .int (nI w)) (hw : w ≤ 1) (g21 : g 21 = .int (nI p)) (g22 : g 22 = .int (nI lim)) (g25 : g 25 = .int 0) (hp : p ≤ 960) (hl : lim ≤ 960) (hbs : bytesOK (mB mb w)) :
    ev X (d + 2) 98 [.ref 408] S (fun r => (∃ v p', num9 (mB mb w) lim p = some (v, p') ∧ r = (.inl (some (.long v)), am_upd S 408 (mod (va_up g 21 (.int (nI p')))))) ∨ (num9 (mB mb w) lim p = none ∧ ∃ v q, q ≤ 960 ∧ r = (.inl (some (.long v)), am_upd S 408 (mod (va_up (va_up (va_up g 21 (.int (nI q))) 26 (.int (nI p))) 25 (.int 2)))))) := by
  refine ev_wp (L0 := [some (.ref 408), none, none, none, none, none, none]) (Nat.le_of_ble_eq_true rfl) rfl ?_
  refine wp_step rfl rfl ?_
  refine wp_getg rfl h (by decide) g21 ?_
  refine wp_step rfl rfl ?_
  refine wp_step rfl rfl ?_
  refine wp_step rfl rfl ?_
  refine wp_step rfl rfl ?_
  refine wp_step rfl rfl ?_
  refine wp_step rfl rfl ?_
  refine wp_step rfl rfl ?_
  exact comp_loop (p0 := p) hw hl hbs 8 0 p 0 none S g rfl h hb g4 g19 g21 g22 g25 hp (fun v' p' h9 => Or.inl ⟨v', p', h9, rfl⟩) (fun h9 v' q hq => Or.inr ⟨h9, v', q, hq, rfl⟩)
theorem m_comp1 {f : Int32} (h : am_get S 408 = some (mod g)) (g21 : g 21 = .int (nI p)) (g25 : g 25 = .int f) (hf : f ≠ 0) :
    ev X (d + 2) 98 [.ref 408] S (fun r => r = (.inl (some (.long 0)), S)) := by
  refine ev_wp (L0 := [some (.ref 408), none, none, none, none, none, none]) (Nat.le_of_ble_eq_true rfl) rfl ?_
  refine wp_step rfl rfl ?_
  refine wp_getg rfl h (by decide) g21 ?_
  refine wp_step rfl rfl ?_
  refine wp_step rfl rfl ?_
  refine wp_step rfl rfl ?_
  refine wp_step rfl rfl ?_
  refine wp_step rfl rfl ?_
  refine wp_step rfl rfl ?_
  refine wp_step rfl rfl ?_
  refine wp_step rfl rfl ?_
  refine wp_step rfl rfl ?_
  refine wp_icmp_f rfl (by decide) ?_
  refine wp_step rfl rfl ?_
  refine wp_if_f rfl (by decide) ?_
  refine wp_step rfl rfl ?_
  refine wp_getg rfl h (by decide) g25 ?_
  refine wp_if_t rfl (c1_ne0 hf) ?_
  refine wp_step rfl rfl ?_
  exact wp_lret rfl rfl rfl
end MOD2
