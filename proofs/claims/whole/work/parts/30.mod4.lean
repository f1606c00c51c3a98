/-! FlightReaderModel: an event's head -/
section MOD4
variable {X : Nat × (Nat → Int32)} {d : Nat} {S : am_S} {g : Nat → Value} {mb : Nat → Int32} {w p e : Nat}
theorem beg_68F {Q : am_R → Prop} {f x : Int32} {g' : Nat → Value} (h : am_get S 408 = some (mod g)) (g25 : g' 25 = .int f) (hf : f ≠ 0) (hQ : Q (.inl (some (.int (nI e))), am_upd S 408 (mod (va_up g' 22 (.int (nI p + x)))))) :
    wp X d 115 68 [some (.ref 408), some (.int (nI p)), some (.int (nI e)), some (.int x)] [] (am_upd S 408 (mod g')) Q := by
  refine wp_step rfl rfl ?_
  refine wp_getg rfl (am_get_self h) (by decide) g25 ?_
  refine wp_if_t rfl (c1_ne0 hf) ?_
  refine wp_step rfl rfl ?_
  refine wp_step rfl rfl ?_
  refine wp_step rfl rfl ?_
  refine wp_step rfl rfl ?_
  refine wp_putg rfl (am_get_self h) (by decide) rfl rfl ?_
  rw [am_upd_upd]
  refine wp_step rfl rfl ?_
  refine wp_getg (v := .int f) rfl (am_get_self h) (by decide) g25 ?_
  refine wp_if_t rfl (c1_ne0 hf) ?_
  refine wp_step rfl rfl ?_
  exact wp_iret rfl rfl rfl hQ
theorem beg_40F {Q : am_R → Prop} {f x : Int32} {g' : Nat → Value} {q : Nat} (h : am_get S 408 = some (mod g)) (g21 : g' 21 = .int (nI q)) (g25 : g' 25 = .int f) (hf : f ≠ 0) (hQ : Q (.inl (some (.int (nI e))), am_upd S 408 (mod (va_up (va_up (va_up g' 57 (.int (nI q))) 56 (.long 0)) 22 (.int (nI p + x)))))) :
    wp X d 115 40 [some (.ref 408), some (.int (nI p)), some (.int (nI e)), some (.int x)] [] (am_upd S 408 (mod g')) Q := by
  refine wp_step rfl rfl ?_
  refine wp_step rfl rfl ?_
  refine wp_getg rfl (am_get_self h) (by decide) g21 ?_
  refine wp_putg rfl (am_get_self h) (by decide) rfl rfl ?_
  rw [am_upd_upd]
  refine wp_step rfl rfl ?_
  refine wp_step rfl rfl ?_
  refine wp_getg (v := .int f) rfl (am_get_self h) (by decide) g25 ?_
  refine wp_if_t rfl (c1_ne0 hf) ?_
  refine wp_step rfl rfl ?_
  refine wp_putg rfl (am_get_self h) (by decide) rfl rfl ?_
  rw [am_upd_upd]
  exact beg_68F h g25 hf hQ
set_option maxHeartbeats 1000000 in
theorem m_begins (h : am_get S 408 = some (mod g)) (hb : am_get S 410 = some (.inl (0, 1920, .inl mb))) (g4 : g 4 = .ref 410) (g19 : g 19 = .int (nI w)) (hw : w ≤ 1) (g25 : g 25 = .int 0) (hp : p ≤ e) (hl : e ≤ 960) (hbs : bytesOK (mB mb w)) :
    ev X (d + 4) 115 [.ref 408, .int (nI p), .int (nI e)] S (fun r => (∃ len id p1 p2, hd (mB mb w) p e = .inr (len, id, p1, p2) ∧ ∃ g', r = (.inl (some (.int (nI (p + len)))), am_upd S 408 (mod g')) ∧ g' 21 = .int (nI p2) ∧ g' 22 = .int (nI (p + len)) ∧ g' 56 = .long (lN id) ∧ g' 57 = .int (nI p1) ∧ ∀ j, j ∉ [21, 22, 56, 57] → g' j = g j) ∨
      (∃ k pl, hd (mB mb w) p e = .inl (k, pl) ∧ ∃ g', r = (.inl (some (.int (nI e))), am_upd S 408 (mod g')) ∧ (∃ q, q ≤ 960 ∧ g' 21 = .int (nI q)) ∧ (∃ x, g' 22 = .int x) ∧ (∃ x, g' 56 = .long x) ∧ (∃ x, g' 57 = .int x) ∧ g' 25 = .int k ∧ g' 26 = .int (nI pl) ∧ ∀ j, j ∉ [21, 22, 25, 26, 56, 57] → g' j = g j)) := by
  refine ev_wp (L0 := [some (.ref 408), some (.int (nI p)), some (.int (nI e)), none]) (Nat.le_of_ble_eq_true rfl) rfl ?_
  refine wp_step rfl rfl ?_
  refine wp_step rfl rfl ?_
  refine wp_putg rfl h (by decide) rfl rfl ?_
  refine wp_step rfl rfl ?_
  refine wp_step rfl rfl ?_
  refine wp_putg rfl (am_get_self h) (by decide) rfl rfl ?_
  rw [am_upd_upd]
  refine wp_step rfl rfl ?_
  have hb1 : ∀ x, am_get (am_upd S 408 x) 410 = some (.inl (0, 1920, .inl mb)) := fun x => by rw [am_get_ne (by decide)]; exact hb
  refine wp_call rfl rfl (by decide) rfl (recv_ok (am_get_self h) rfl) (m_small0 (p := p) (lim := e) (am_get_self h) (hb1 _) g4 g19 hw rfl rfl g25 (by omega) hl hbs) (fun v T hq => ?_) (fun E T hq => by rcases hq with ⟨_, _, _, e9⟩ | ⟨_, _, _, e9⟩ <;> cases e9)
  rcases hq with ⟨len, p1, hn, e9⟩ | ⟨hn, q, hq, e9⟩
  · cases e9
    rw [am_upd_upd]
    obtain ⟨hl31, hp1, hp1e⟩ := cnt_lt hn
    refine wp_step rfl rfl ?_
    refine wp_step rfl rfl ?_
    refine wp_getg (v := .int 0) rfl (am_get_self h) (by decide) g25 ?_
    refine wp_if_f rfl (by decide) ?_
    have bad : (len < 2 ∨ e - p < len) → wp X (d + 3) 115 34 [some (.ref 408), some (.int (nI p)), some (.int (nI e)), some (.int (nI len))] [] (am_upd S 408 (mod (va_up (va_up (va_up g 21 (.int (nI p))) 22 (.int (nI e))) 21 (.int (nI p1))))) (fun r => (∃ len id p1 p2, hd (mB mb w) p e = .inr (len, id, p1, p2) ∧ ∃ g', r = (.inl (some (.int (nI (p + len)))), am_upd S 408 (mod g')) ∧ g' 21 = .int (nI p2) ∧ g' 22 = .int (nI (p + len)) ∧ g' 56 = .long (lN id) ∧ g' 57 = .int (nI p1) ∧ ∀ j, j ∉ [21, 22, 56, 57] → g' j = g j) ∨
      (∃ k pl, hd (mB mb w) p e = .inl (k, pl) ∧ ∃ g', r = (.inl (some (.int (nI e))), am_upd S 408 (mod g')) ∧ (∃ q, q ≤ 960 ∧ g' 21 = .int (nI q)) ∧ (∃ x, g' 22 = .int x) ∧ (∃ x, g' 56 = .long x) ∧ (∃ x, g' 57 = .int x) ∧ g' 25 = .int k ∧ g' 26 = .int (nI pl) ∧ ∀ j, j ∉ [21, 22, 25, 26, 56, 57] → g' j = g j)) := by
      intro hbad
      refine wp_step rfl rfl ?_
      refine wp_step rfl rfl ?_
      refine wp_step rfl rfl ?_
      refine wp_call rfl rfl (by decide) rfl (recv_ok (am_get_self h) rfl) (ev_up (by omega) (m_wrong0 (d := 0) _ _ (am_get_self h) g25)) (fun v T hq => ?_) (fun E T hq => by cases hq)
      cases hq
      rw [am_upd_upd]
      refine beg_40F (f := 5) (q := p1) h rfl rfl (by decide) (Or.inr ⟨5, p, ?_, _, rfl, ⟨p1, by omega, rfl⟩, ⟨_, rfl⟩, ⟨_, rfl⟩, ⟨_, rfl⟩, rfl, rfl, fun j hj => ?_⟩)
      · unfold hd; rw [hn]; exact if_pos hbad
      · simp only [List.mem_cons, List.not_mem_nil, or_false, not_or] at hj
        simp [va_up, hj]
    refine wp_step rfl rfl ?_
    refine wp_step rfl rfl ?_
    refine wp_icmp rfl (fun c1 => ?_) (fun c1 => ?_)
    · exact bad (Or.inl ((nI_ltI hl31 (by decide)).mp (of_decide_eq_true (show am_c2 .lt (nI len) (nI 2) = true from c1))))
    · have hl2 : ¬ len < 2 := fun h9 => of_decide_eq_false (show am_c2 .lt (nI len) (nI 2) = false from c1) ((nI_ltI hl31 (by decide)).mpr h9)
      refine wp_step rfl rfl ?_
      refine wp_step rfl rfl ?_
      refine wp_step rfl rfl ?_
      refine wp_step rfl rfl ?_
      rw [pk_sub hp]
      refine wp_icmp rfl (fun c2 => ?_) (fun c2 => ?_)
      · have hle : len ≤ e - p := (nI_leI hl31 (by omega)).mp (of_decide_eq_true c2)
        refine wp_step rfl rfl ?_
        refine wp_step rfl rfl ?_
        refine wp_getg (v := .int (nI p1)) rfl (am_get_self h) (by decide) rfl ?_
        refine wp_putg rfl (am_get_self h) (by decide) rfl rfl ?_
        rw [am_upd_upd]
        refine wp_step rfl rfl ?_
        refine wp_step rfl rfl ?_
        refine wp_getg (v := .int 0) rfl (am_get_self h) (by decide) g25 ?_
        refine wp_if_f rfl (by decide) ?_
        refine wp_step rfl rfl ?_
        refine wp_call rfl rfl (by decide) rfl (recv_ok (am_get_self h) rfl) (m_small0 (p := p1) (lim := e) (am_get_self h) (hb1 _) g4 g19 hw rfl rfl g25 (by omega) hl hbs) (fun v T hq => ?_) (fun E T hq => by rcases hq with ⟨_, _, _, e9⟩ | ⟨_, _, _, e9⟩ <;> cases e9)
        rcases hq with ⟨id, p2, hn2, e9⟩ | ⟨hn2, q, hq, e9⟩
        · cases e9
          rw [am_upd_upd]
          obtain ⟨hi31, hp2, hp2e⟩ := cnt_lt hn2
          refine wp_step rfl rfl ?_
          refine wp_step rfl rfl ?_
          rw [nI_l hi31]
          refine wp_putg rfl (am_get_self h) (by decide) rfl rfl ?_
          rw [am_upd_upd]
          refine wp_step rfl rfl ?_
          refine wp_getg (v := .int 0) rfl (am_get_self h) (by decide) g25 ?_
          refine wp_if_f rfl (by decide) ?_
          refine wp_step rfl rfl ?_
          refine wp_getg (v := .int (nI p2)) rfl (am_get_self h) (by decide) rfl ?_
          refine wp_step rfl rfl ?_
          refine wp_step rfl rfl ?_
          refine wp_step rfl rfl ?_
          rw [nI_add]
          refine wp_icmp rfl (fun c3 => ?_) (fun c3 => ?_)
          · have hle2 : p2 ≤ p + len := (nI_leI (by omega) (by omega)).mp (of_decide_eq_true c3)
            refine wp_step rfl rfl ?_
            refine wp_step rfl rfl ?_
            refine wp_step rfl rfl ?_
            refine wp_step rfl rfl ?_
            rw [nI_add]
            refine wp_putg rfl (am_get_self h) (by decide) rfl rfl ?_
            rw [am_upd_upd]
            refine wp_step rfl rfl ?_
            refine wp_getg (v := .int 0) rfl (am_get_self h) (by decide) g25 ?_
            refine wp_if_f rfl (by decide) ?_
            refine wp_step rfl rfl ?_
            refine wp_step rfl rfl ?_
            refine wp_step rfl rfl ?_
            refine wp_step rfl rfl ?_
            rw [nI_add]
            refine wp_iret rfl rfl rfl (Or.inl ⟨len, id, p1, p2, ?_, _, rfl, rfl, rfl, rfl, rfl, fun j hj => ?_⟩)
            · unfold hd
              rw [hn]
              dsimp only
              rw [if_neg (by omega), hn2]
              exact if_neg (by omega)
            · simp only [List.mem_cons, List.not_mem_nil, or_false, not_or] at hj
              simp [va_up, hj]
          · have hle2 : ¬ p2 ≤ p + len := fun h9 => of_decide_eq_false c3 ((nI_leI (by omega) (by omega)).mpr h9)
            refine wp_step rfl rfl ?_
            refine wp_step rfl rfl ?_
            refine wp_step rfl rfl ?_
            refine wp_getg (v := .int (nI p1)) rfl (am_get_self h) (by decide) rfl ?_
            refine wp_call rfl rfl (by decide) rfl (recv_ok (am_get_self h) rfl) (ev_up (by omega) (m_wrong0 (d := 0) _ _ (am_get_self h) g25)) (fun v T hq => ?_) (fun E T hq => by cases hq)
            cases hq
            rw [am_upd_upd]
            refine wp_step rfl rfl ?_
            refine wp_step rfl rfl ?_
            refine wp_step rfl rfl ?_
            refine wp_step rfl rfl ?_
            refine wp_putg rfl (am_get_self h) (by decide) rfl rfl ?_
            rw [am_upd_upd]
            refine wp_step rfl rfl ?_
            refine wp_getg (v := .int (Int32.ofInt 2)) rfl (am_get_self h) (by decide) rfl ?_
            refine wp_if_t rfl (by decide) ?_
            refine wp_step rfl rfl ?_
            refine wp_iret rfl rfl rfl (Or.inr ⟨2, p1, ?_, _, rfl, ⟨p2, by omega, rfl⟩, ⟨_, rfl⟩, ⟨_, rfl⟩, ⟨_, rfl⟩, rfl, rfl, fun j hj => ?_⟩)
            · unfold hd
              rw [hn]
              dsimp only
              rw [if_neg (by omega), hn2]
              exact if_pos (by omega)
            · simp only [List.mem_cons, List.not_mem_nil, or_false, not_or] at hj
              simp [va_up, hj]
        · cases e9
          rw [am_upd_upd]
          refine wp_step rfl rfl ?_
          refine wp_step rfl rfl ?_
          refine wp_putg rfl (am_get_self h) (by decide) rfl rfl ?_
          rw [am_upd_upd]
          refine beg_68F (f := 2) h rfl (by decide) (Or.inr ⟨2, p1, ?_, _, rfl, ⟨q, hq, rfl⟩, ⟨_, rfl⟩, ⟨_, rfl⟩, ⟨_, rfl⟩, rfl, rfl, fun j hj => ?_⟩)
          · unfold hd
            rw [hn]
            dsimp only
            rw [if_neg (by omega), hn2]
          · simp only [List.mem_cons, List.not_mem_nil, or_false, not_or] at hj
            simp [va_up, hj]
      · have hle : ¬ len ≤ e - p := fun h9 => of_decide_eq_false c2 ((nI_leI hl31 (by omega)).mpr h9)
        exact bad (Or.inr (by omega))
  · cases e9
    rw [am_upd_upd]
    refine wp_step rfl rfl ?_
    refine wp_step rfl rfl ?_
    refine wp_getg (v := .int 2) rfl (am_get_self h) (by decide) rfl ?_
    refine wp_if_t rfl (by decide) ?_
    refine beg_40F (f := 2) (q := q) h rfl rfl (by decide) (Or.inr ⟨2, p, ?_, _, rfl, ⟨q, hq, rfl⟩, ⟨_, rfl⟩, ⟨_, rfl⟩, ⟨_, rfl⟩, rfl, rfl, fun j hj => ?_⟩)
    · unfold hd; rw [hn]
    · simp only [List.mem_cons, List.not_mem_nil, or_false, not_or] at hj
      simp [va_up, hj]
end MOD4
