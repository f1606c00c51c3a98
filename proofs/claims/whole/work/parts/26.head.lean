/-! an event's head: length and type -/
def hd (B : Nat → Int32) (start cend : Nat) : (Int32 × Nat) ⊕ (Nat × Nat × Nat × Nat) := match cnt B cend start with
  | none => .inl (2, start)
  | some (len, p1) => if len < 2 ∨ cend - start < len then .inl (5, start) else (match cnt B cend p1 with
    | none => .inl (2, p1)
    | some (id, p2) => if start + len < p2 then .inl (2, p1) else .inr (len, id, p1, p2))
section SRC3
variable {X : Nat × (Nat → Int32)} {d : Nat} {S : am_S} {fed total pos lim idp start cend : Nat} {fk fp : Int32} {fb : Nat → Int32}
theorem s_head (h : am_get S 1 = some (src fed total pos lim idp fk fp)) (hB : am_get S 2 = some (.inl (2, 960, .inl fb))) (hs : start ≤ cend) (hc : cend ≤ 960) (hi : idp ≤ 960) :
    ev X (d + 4) 51 [.ref 1, .int (nI start), .int (nI cend)] S (fun r => (∃ len id p1 p2, hd (by8 fb) start cend = .inr (len, id, p1, p2) ∧ r = (.inl (some (.int (nI id))), am_upd S 1 (src fed total p2 (start + len) p1 fk fp))) ∨ (∃ k pl, hd (by8 fb) start cend = .inl (k, pl) ∧ ∃ q l i, q ≤ 960 ∧ l ≤ 960 ∧ i ≤ 960 ∧ r = (.inr IAE, am_thrown (am_upd S 1 (src fed total q l i k (nI pl)))))) := by
  refine ev_wp (L0 := [some (.ref 1), some (.int (nI start)), some (.int (nI cend)), none, none]) (Nat.le_of_ble_eq_true rfl) rfl ?_
  refine wp_step rfl rfl ?_
  refine wp_step rfl rfl ?_
  refine wp_putg rfl h (by decide) rfl rfl ?_
  rw [srcG_3]
  refine wp_step rfl rfl ?_
  refine wp_step rfl rfl ?_
  refine wp_putg rfl (am_get_self h) (by decide) rfl rfl ?_
  rw [am_upd_upd, srcG_4]
  refine wp_step rfl rfl ?_
  have h1 : am_get (am_upd S 1 (src fed total start cend idp fk fp)) 1 = some (src fed total start cend idp fk fp) := am_get_self h
  have hB1 : ∀ x, am_get (am_upd S 1 x) 2 = some (.inl (2, 960, .inl fb)) := fun x => by rw [am_get_ne (by decide)]; exact hB
  refine wp_call rfl rfl (by decide) rfl (recv_ok h1 rfl) (s_count h1 (hB1 _) hc (by omega)) (fun v T hq => ?_) (fun E T hq => ?_)
  · rcases hq with ⟨len, p1, hn, e⟩ | ⟨-, q, -, e⟩
    · cases e
      rw [am_upd_upd]
      obtain ⟨hl31, hp1, hp1c⟩ := cnt_lt hn
      have h2 : ∀ p i, am_get (am_upd S 1 (src fed total p cend i fk fp)) 1 = some (src fed total p cend i fk fp) := fun p i => am_get_self h
      have bad : (len < 2 ∨ cend - start < len) → wp X (d + 3) 51 27 [some (.ref 1), some (.int (nI start)), some (.int (nI cend)), some (.int (nI len)), none] [] (am_upd S 1 (src fed total p1 cend idp fk fp)) (fun r => (∃ len id p1 p2, hd (by8 fb) start cend = .inr (len, id, p1, p2) ∧ r = (.inl (some (.int (nI id))), am_upd S 1 (src fed total p2 (start + len) p1 fk fp))) ∨ (∃ k pl, hd (by8 fb) start cend = .inl (k, pl) ∧ ∃ q l i, q ≤ 960 ∧ l ≤ 960 ∧ i ≤ 960 ∧ r = (.inr IAE, am_thrown (am_upd S 1 (src fed total q l i k (nI pl)))))) := by
        intro hbad
        refine wp_step rfl rfl ?_
        refine wp_step rfl rfl ?_
        refine wp_step rfl rfl ?_
        refine wp_call rfl rfl (by decide) rfl (recv_ok (h2 _ _) rfl) (ev_up (by omega) (s_fail (d := 0) _ _ (h2 _ _))) (fun v T hq => by cases hq) (fun E T hq => ?_)
        cases hq
        refine Or.inl ⟨rfl, Or.inr ⟨5, start, ?_, p1, cend, idp, by omega, by omega, hi, ?_⟩⟩
        · unfold hd; rw [hn]; exact if_pos hbad
        · rw [am_upd_upd]; rfl
      refine wp_step rfl rfl ?_
      refine wp_step rfl rfl ?_
      refine wp_step rfl rfl ?_
      refine wp_icmp rfl (fun c1 => ?_) (fun c1 => ?_)
      · exact bad (Or.inl ((nI_ltI hl31 (by decide)).mp (of_decide_eq_true (show am_c2 .lt (nI len) (nI 2) = true from c1))))
      · have hl2 : ¬ len < 2 := fun h9 => of_decide_eq_false (show am_c2 .lt (nI len) (nI 2) = false from c1) ((nI_ltI hl31 (by decide)).mpr h9)
        refine wp_step rfl rfl ?_
        refine wp_step rfl rfl ?_
        refine wp_step rfl rfl ?_
        refine wp_step rfl rfl ?_
        rw [pk_sub hs]
        refine wp_icmp rfl (fun c2 => ?_) (fun c2 => ?_)
        · have hle : len ≤ cend - start := (nI_leI hl31 (by omega)).mp (of_decide_eq_true c2)
          refine wp_step rfl rfl ?_
          refine wp_step rfl rfl ?_
          refine wp_getg (v := .int (nI p1)) rfl (h2 _ _) (by decide) rfl ?_
          refine wp_putg rfl (h2 _ _) (by decide) rfl rfl ?_
          rw [am_upd_upd, srcG_5]
          refine wp_step rfl rfl ?_
          refine wp_call rfl rfl (by decide) rfl (recv_ok (h2 _ _) rfl) (s_count (h2 _ _) (hB1 _) hc (by omega)) (fun v T hq => ?_) (fun E T hq => ?_)
          · rcases hq with ⟨id, p2, hn2, e⟩ | ⟨-, q, -, e⟩
            · cases e
              rw [am_upd_upd]
              obtain ⟨hi31, hp2, hp2c⟩ := cnt_lt hn2
              refine wp_step rfl rfl ?_
              refine wp_step rfl rfl ?_
              refine wp_getg (v := .int (nI p2)) rfl (h2 _ _) (by decide) rfl ?_
              refine wp_step rfl rfl ?_
              refine wp_step rfl rfl ?_
              refine wp_step rfl rfl ?_
              rw [nI_add]
              refine wp_icmp rfl (fun c3 => ?_) (fun c3 => ?_)
              · have hle2 : p2 ≤ start + len := (nI_leI (by omega) (by omega)).mp (of_decide_eq_true c3)
                refine wp_step rfl rfl ?_
                refine wp_step rfl rfl ?_
                refine wp_step rfl rfl ?_
                refine wp_step rfl rfl ?_
                rw [nI_add]
                refine wp_putg rfl (h2 _ _) (by decide) rfl rfl ?_
                rw [am_upd_upd, srcG_4]
                refine wp_step rfl rfl ?_
                refine wp_iret rfl rfl rfl (Or.inl ⟨len, id, p1, p2, ?_, rfl⟩)
                unfold hd
                rw [hn]
                dsimp only
                rw [if_neg (by omega), hn2]
                exact if_neg (by omega)
              · have hle2 : ¬ p2 ≤ start + len := fun h9 => of_decide_eq_false c3 ((nI_leI (by omega) (by omega)).mpr h9)
                refine wp_step rfl rfl ?_
                refine wp_step rfl rfl ?_
                refine wp_step rfl rfl ?_
                refine wp_getg (v := .int (nI p1)) rfl (h2 _ _) (by decide) rfl ?_
                refine wp_call rfl rfl (by decide) rfl (recv_ok (h2 _ _) rfl) (ev_up (by omega) (s_fail (d := 0) _ _ (h2 _ _))) (fun v T hq => by cases hq) (fun E T hq => ?_)
                cases hq
                refine Or.inl ⟨rfl, Or.inr ⟨2, p1, ?_, p2, cend, p1, by omega, by omega, by omega, ?_⟩⟩
                · unfold hd
                  rw [hn]
                  dsimp only
                  rw [if_neg (by omega), hn2]
                  exact if_pos (by omega)
                · rw [am_upd_upd]; rfl
            · cases e
          · rcases hq with ⟨id, p2, hn2, e⟩ | ⟨hn2, q, hq, e⟩
            · cases e
            · cases e
              refine Or.inl ⟨rfl, Or.inr ⟨2, p1, ?_, q, cend, p1, hq, by omega, by omega, ?_⟩⟩
              · unfold hd
                rw [hn]
                dsimp only
                rw [if_neg (by omega), hn2]
              · rw [am_upd_upd]
        · have hle : ¬ len ≤ cend - start := fun h9 => of_decide_eq_false c2 ((nI_leI hl31 (by omega)).mpr h9)
          exact bad (Or.inr (by omega))
    · cases e
  · rcases hq with ⟨len, p1, hn, e⟩ | ⟨hn, q, hq, e⟩
    · cases e
    · cases e
      refine Or.inl ⟨rfl, Or.inr ⟨2, start, ?_, q, cend, idp, hq, by omega, hi, ?_⟩⟩
      · unfold hd; rw [hn]
      · rw [am_upd_upd]
end SRC3
