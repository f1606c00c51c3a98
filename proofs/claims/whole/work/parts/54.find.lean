/-! comparisons as they are -/
theorem i_eq_t {x y : Int32} (h : am_c2 .eq x y = true) : x = y := of_decide_eq_true h
theorem i_eq_f {x y : Int32} (h : am_c2 .eq x y = false) : x ≠ y := of_decide_eq_false h
theorem q_eq_t {x : Int32} (h : am_c1 .eq x = true) : x = 0 := of_decide_eq_true h
theorem q_eq_f {x : Int32} (h : am_c1 .eq x = false) : x ≠ 0 := of_decide_eq_false h
theorem l_eq_t {x y : Int64} (h : am_c1 .eq (lg_cmp x y) = true) : x = y := (lg_cmp_eq x y).mp (of_decide_eq_true h)
theorem l_eq_f {x y : Int64} (h : am_c1 .eq (lg_cmp x y) = false) : x ≠ y := fun e => of_decide_eq_false h ((lg_cmp_eq x y).mpr e)
theorem i_ne_t {x y : Int32} (h : am_c2 .ne x y = true) : x ≠ y := of_decide_eq_true h
theorem i_ne_f {x y : Int32} (h : am_c2 .ne x y = false) : x = y := Decidable.of_not_not (of_decide_eq_false h)
theorem q_ne_t {x : Int32} (h : am_c1 .ne x = true) : x ≠ 0 := of_decide_eq_true h
theorem q_ne_f {x : Int32} (h : am_c1 .ne x = false) : x = 0 := Decidable.of_not_not (of_decide_eq_false h)
theorem l_ne_t {x y : Int64} (h : am_c1 .ne (lg_cmp x y) = true) : x ≠ y := fun e => of_decide_eq_true h ((lg_cmp_eq x y).mpr e)
theorem l_ne_f {x y : Int64} (h : am_c1 .ne (lg_cmp x y) = false) : x = y := (lg_cmp_eq x y).mp (Decidable.of_not_not (of_decide_eq_false h))
theorem i_lt_t {x y : Int32} (h : am_c2 .lt x y = true) : x < y := of_decide_eq_true h
theorem i_lt_f {x y : Int32} (h : am_c2 .lt x y = false) : ¬ x < y := of_decide_eq_false h
theorem q_lt_t {x : Int32} (h : am_c1 .lt x = true) : x < 0 := of_decide_eq_true h
theorem q_lt_f {x : Int32} (h : am_c1 .lt x = false) : ¬ x < 0 := of_decide_eq_false h
theorem l_lt_t {x y : Int64} (h : am_c1 .lt (lg_cmp x y) = true) : x < y := (lg_cmp_lt x y).mp (of_decide_eq_true h)
theorem l_lt_f {x y : Int64} (h : am_c1 .lt (lg_cmp x y) = false) : ¬ x < y := fun e => of_decide_eq_false h ((lg_cmp_lt x y).mpr e)
theorem i_ge_t {x y : Int32} (h : am_c2 .ge x y = true) : y ≤ x := of_decide_eq_true h
theorem i_ge_f {x y : Int32} (h : am_c2 .ge x y = false) : ¬ y ≤ x := of_decide_eq_false h
theorem q_ge_t {x : Int32} (h : am_c1 .ge x = true) : 0 ≤ x := of_decide_eq_true h
theorem q_ge_f {x : Int32} (h : am_c1 .ge x = false) : ¬ 0 ≤ x := of_decide_eq_false h
theorem l_ge_t {x y : Int64} (h : am_c1 .ge (lg_cmp x y) = true) : y ≤ x := (lg_cmp_ge x y).mp (of_decide_eq_true h)
theorem l_ge_f {x y : Int64} (h : am_c1 .ge (lg_cmp x y) = false) : ¬ y ≤ x := fun e => of_decide_eq_false h ((lg_cmp_ge x y).mpr e)
theorem i_gt_t {x y : Int32} (h : am_c2 .gt x y = true) : y < x := of_decide_eq_true h
theorem i_gt_f {x y : Int32} (h : am_c2 .gt x y = false) : ¬ y < x := of_decide_eq_false h
theorem q_gt_t {x : Int32} (h : am_c1 .gt x = true) : 0 < x := of_decide_eq_true h
theorem q_gt_f {x : Int32} (h : am_c1 .gt x = false) : ¬ 0 < x := of_decide_eq_false h
theorem l_gt_t {x y : Int64} (h : am_c1 .gt (lg_cmp x y) = true) : y < x := (lg_cmp_gt x y).mp (of_decide_eq_true h)
theorem l_gt_f {x y : Int64} (h : am_c1 .gt (lg_cmp x y) = false) : ¬ y < x := fun e => of_decide_eq_false h ((lg_cmp_gt x y).mpr e)
theorem i_le_t {x y : Int32} (h : am_c2 .le x y = true) : x ≤ y := of_decide_eq_true h
theorem i_le_f {x y : Int32} (h : am_c2 .le x y = false) : ¬ x ≤ y := of_decide_eq_false h
theorem q_le_t {x : Int32} (h : am_c1 .le x = true) : x ≤ 0 := of_decide_eq_true h
theorem q_le_f {x : Int32} (h : am_c1 .le x = false) : ¬ x ≤ 0 := of_decide_eq_false h
theorem l_le_t {x y : Int64} (h : am_c1 .le (lg_cmp x y) = true) : x ≤ y := (lg_cmp_le x y).mp (of_decide_eq_true h)
theorem l_le_f {x y : Int64} (h : am_c1 .le (lg_cmp x y) = false) : ¬ x ≤ y := fun e => of_decide_eq_false h ((lg_cmp_le x y).mpr e)
/-! the class's lookups -/
section FIND
variable {X : Nat × (Nat → Int32)} {d : Nat} {Q : am_R → Prop} {b : Nat → Nat} {tot v c n0 l0 : Nat} {τ : jTT} {A : jVA} {S : am_S}
theorem pt_loop {h lim p' n' l' nd step idx : Nat} (hv : vS S v n0 l0 A) (hidx : idx < 2 ^ 31) (hv9 : v < 800000) : ∀ (m i : Nat) (js : List (Nat × Nat)) (p n l : Nat), i + m = idx → m < js.length → DS (DV τ b lim A h) js p n l p' n' l' → n' ≤ 1201 → (∀ pm nm lm, DS (DV τ b lim A h) (js.take m) p n l pm nm lm → DS (DV τ b lim A h) (js.drop m) pm nm lm p' n' l' → Q (.inl (some (.int (nI nm))), S)) →
    wp X d 71 103 [some (.ref v), some (.ref c), some (.int (nI nd)), some (.int (nI step)), some (.int (nI idx)), some (.int (nI n)), some (.int (nI i))] [] S Q := by
  intro m
  induction m with
  | zero =>
    intro i js p n l hi hm hd hn' hq
    have e9 : i = idx := by omega
    subst e9
    iterate 2 refine wp_step rfl rfl ?_
    refine wp_icmp rfl (fun c0 => ?_) (fun c0 => ?_)
    · replace c0 := n_ge_t (a := i) (b := i) (by omega) (by omega) c0
      refine wp_step rfl rfl ?_
      refine wp_iret rfl rfl rfl (hq p n l ⟨rfl, rfl, rfl⟩ hd)
    · replace c0 := n_ge_f (a := i) (b := i) (by omega) (by omega) c0
      omega
  | succ m ih =>
    intro i js p n l hi hm hd hn' hq
    iterate 2 refine wp_step rfl rfl ?_
    refine wp_icmp rfl (fun c0 => ?_) (fun c0 => ?_)
    · replace c0 := n_ge_t (a := i) (b := idx) (by omega) (by omega) c0
      omega
    · replace c0 := n_ge_f (a := i) (b := idx) (by omega) (by omega) c0
      match js, hd, hm, hq with
      | (ty, fl) :: js2, hd, hm, hq =>
        obtain ⟨p1, n1, l1, h1, h2⟩ := hd
        have htop := DV_top h1
        have hle := DV_le _ _ _ _ _ _ _ _ _ h1
        refine wp_step rfl rfl ?_
        refine wp_getg rfl hv.1 (by decide) rfl ?_
        refine wp_step rfl rfl ?_
        refine wp_ald rfl (Or.inl ⟨rfl, rfl⟩) (by omega) hv.2.2.2.2.1 (am_in_nI (by omega) (by decide)) ?_
        rw [nI_clamp (by omega)]
        rw [htop.2]
        iterate 3 refine wp_step rfl rfl ?_
        rw [show nI i + Int32.ofInt 1 = nI (i + 1) from nI_add i 1]
        exact ih (i + 1) js2 p1 n1 l1 (by omega) (by rw [List.length_cons] at hm; omega) h2 hn' (fun pm nm lm g1 g2 => hq pm nm lm ⟨p1, n1, l1, h1, g1⟩ g2)
set_option maxHeartbeats 2000000 in
theorem q_part {nd step : Nat} {w : jV} (hv : vS S v n0 l0 A) (hO : ckO S c τ) (hwf : wfT τ) (hv9 : v < 800000) (hc9 : c < 800000) (hn : nv τ b tot A nd w) (hs : step < 256)
    (hnone : stp τ b tot w step = none → Q (.inl (some (.int (-1))), S)) (hsome : ∀ w' nd', stp τ b tot w step = some w' → nv τ b tot A nd' w' → Q (.inl (some (.int (nI nd'))), S)) : ev X (d + 2) 71 [.ref v, .ref c, .int (nI nd), .int (nI step)] S Q := by
  refine ev_wp (L0 := [some (.ref v), some (.ref c), some (.int (nI nd)), some (.int (nI step)), none, none, none]) (Nat.le_of_ble_eq_true rfl) rfl ?_
  obtain ⟨hkd, hnd, hk13⟩ := nv_kd hn
  obtain ⟨h, lim, l, p', n', l', h1, h2, h3, hd⟩ := hn
  have hh : h ≠ 0 := fun e => by subst e; exact hd.elim
  obtain ⟨h, rfl⟩ : ∃ k, h = k + 1 := ⟨h - 1, by omega⟩
  unfold DV at hd
  obtain ⟨-, hd2, hd3, hd4⟩ := hd
  have out : stp τ b tot w step = none → wp X (d + 1) 71 87 [some (.ref v), some (.ref c), some (.int (nI nd)), some (.int (nI step)), some (.int (-1)), none, none] [] S Q := by
    intro hst
    iterate 2 refine wp_step rfl rfl ?_
    refine wp_icmp_f rfl rfl ?_
    refine wp_step rfl rfl ?_
    refine wp_iret rfl rfl rfl (hnone hst)
  iterate 2 refine wp_step rfl rfl ?_
  show wp X (d + 1) 71 3 [some (.ref v), some (.ref c), some (.int (nI nd)), some (.int (nI step)), some (.int (-1)), none, none] [] S Q
  refine wp_step rfl rfl ?_
  refine wp_getg rfl hv.1 (by decide) rfl ?_
  refine wp_step rfl rfl ?_
  refine wp_ald rfl (Or.inl ⟨rfl, rfl⟩) (by omega) hv.2.1 (am_in_nI (by omega) (by decide)) ?_
  rw [nI_clamp (by omega)]
  rw [hkd]
  refine wp_step rfl rfl ?_
  refine wp_icmp rfl (fun c1 => ?_) (fun c1 => ?_)
  · replace c1 := n_ne_t (a := kdOf b w) (b := 11) (by omega) (by omega) c1
    refine wp_step rfl rfl ?_
    refine wp_getg rfl hv.1 (by decide) rfl ?_
    refine wp_step rfl rfl ?_
    refine wp_ald rfl (Or.inl ⟨rfl, rfl⟩) (by omega) hv.2.1 (am_in_nI (by omega) (by decide)) ?_
    rw [nI_clamp (by omega)]
    rw [hkd]
    refine wp_step rfl rfl ?_
    refine wp_icmp rfl (fun c2 => ?_) (fun c2 => ?_)
    · replace c2 := n_ne_t (a := kdOf b w) (b := 12) (by omega) (by omega) c2
      refine out ?_
      unfold stp
      have hf : ¬ 2 ≤ w.2.1 := by
        intro h9
        unfold kdOf at c2
        rw [if_pos h9] at c2
        exact c2 rfl
      have hf2 : ¬ (w.2.1 = 0 ∧ 10 < w.1) := by
        rintro ⟨h8, h9⟩
        unfold kdOf at c1
        rw [if_neg hf, if_neg (by omega), if_neg (by omega), if_neg (by omega)] at c1
        exact c1 rfl
      rw [if_neg hf, if_neg hf2]
    · replace c2 := n_ne_f (a := kdOf b w) (b := 12) (by omega) (by omega) c2
      have har : 2 ≤ w.2.1 ∧ ∃ len p1, cnt (Bn b) lim w.2.2 = some (len, p1) ∧ A.2.1 nd = lN len ∧ DS (DV τ b lim A h) (List.replicate len (w.1, w.2.1 % 2)) p1 (nd + 1) l p' n' l' := by
        unfold kdOf at c2
        rcases hd4 with ⟨q1, len, p1, q2, q3, q4, q5⟩ | ⟨q1, q2, q3, v, q4, q5, q6, q7⟩ | ⟨q1, q2, q3, tv, q4, q5⟩ | ⟨q1, q2, q3, q4, q5, v, q6, q7, q8⟩ | ⟨q1, q2, t, x, q3, q4, q5, q6, q7, q8⟩
        · exact ⟨q1, len, p1, q2, q4, q5⟩
        · rw [if_neg (by omega), if_pos q1] at c2; omega
        · rw [if_neg (by omega), if_neg (by omega), if_pos q2] at c2
          by_cases g : b w.2.2 = 0
          · rw [if_pos g] at c2; omega
          · rw [if_neg g] at c2
            by_cases g2 : b w.2.2 = 2
            · rw [if_pos g2] at c2; omega
            · rw [if_neg g2] at c2; omega
        · rw [if_neg (by omega), if_neg (by omega), if_neg (by omega), if_pos q3] at c2; omega
        · rw [if_neg (by omega), if_neg (by omega), if_neg (by omega), if_neg (by omega)] at c2; omega
      obtain ⟨q1, len, p1, q2, q3, q4⟩ := har
      have hlen := (cnt_lt q2).1
      iterate 2 refine wp_step rfl rfl ?_
      refine wp_icmp rfl (fun c3 => ?_) (fun c3 => ?_)
      · replace c3 := n_lt_t (a := step) (b := 48) (by omega) (by omega) c3
        exact out (by unfold stp; rw [if_pos q1, if_pos (Or.inl c3)])
      · replace c3 := n_lt_f (a := step) (b := 48) (by omega) (by omega) c3
        iterate 2 refine wp_step rfl rfl ?_
        refine wp_icmp rfl (fun c4 => ?_) (fun c4 => ?_)
        · replace c4 := n_gt_t (a := step) (b := 57) (by omega) (by omega) c4
          exact out (by unfold stp; rw [if_pos q1, if_pos (Or.inr c4)])
        · replace c4 := n_gt_f (a := step) (b := 57) (by omega) (by omega) c4
          iterate 3 refine wp_step rfl rfl ?_
          rw [show nI step - (Int8.ofInt 48).toInt32 = nI (step - 48) from pk_sub (b := 48) (by omega)]
          refine wp_step rfl rfl ?_
          rw [nI_l (by omega)]
          refine wp_step rfl rfl ?_
          refine wp_getg rfl hv.1 (by decide) rfl ?_
          refine wp_step rfl rfl ?_
          refine wp_lald rfl (by omega) hv.2.2.1 (am_in_nI (by omega) (by decide)) ?_
          rw [nI_clamp (by omega)]
          rw [q3]
          refine wp_step rfl rfl ?_
          refine wp_if rfl (fun c5 => ?_) (fun c5 => ?_)
          · replace c5 := l_ge_t c5
            rw [lN_le (by omega) (by omega)] at c5
            exact out (by unfold stp; rw [if_pos q1, if_neg (by omega), cnt_mono q2 h2]; dsimp only; rw [if_pos c5])
          · replace c5 := l_ge_f c5
            rw [lN_le (by omega) (by omega)] at c5
            iterate 3 refine wp_step rfl rfl ?_
            rw [show nI step - (Int8.ofInt 48).toInt32 = nI (step - 48) from pk_sub (b := 48) (by omega)]
            refine wp_step rfl rfl ?_
            show wp X (d + 1) 71 87 [some (.ref v), some (.ref c), some (.int (nI nd)), some (.int (nI step)), some (.int (nI (step - 48))), none, none] [] S Q
            iterate 2 refine wp_step rfl rfl ?_
            refine wp_icmp_t rfl (by show am_c2 .ne (nI (step - 48)) (-1) = true; exact decide_eq_true (nI_ne1 (by omega))) ?_
            iterate 3 refine wp_step rfl rfl ?_
            rw [show nI nd + Int32.ofInt 1 = nI (nd + 1) from nI_add nd 1]
            iterate 3 refine wp_step rfl rfl ?_
            show wp X (d + 1) 71 103 [some (.ref v), some (.ref c), some (.int (nI nd)), some (.int (nI step)), some (.int (nI (step - 48))), some (.int (nI (nd + 1))), some (.int (nI 0))] [] S Q
            refine pt_loop hv (by omega) hv9 (step - 48) 0 (List.replicate len (w.1, w.2.1 % 2)) p1 (nd + 1) l (by omega) (by simp; omega) q4 hd3 (fun pm nm lm e1 e2 => ?_)
            rw [List.take_replicate, Nat.min_eq_left (by omega)] at e1
            rw [List.drop_replicate, show len - (step - 48) = (len - (step - 48) - 1) + 1 by omega, List.replicate_succ] at e2
            obtain ⟨p3, n3, l3, e3, e4⟩ := e2
            obtain ⟨m', em⟩ := DS_rv (DV_rv h2 h 21 (by omega)) e1 0
            have hle := DS_le (DV_le h) e4
            exact hsome (w.1, w.2.1 % 2, pm) nm (by unfold stp; rw [if_pos q1, if_neg (by omega), cnt_mono q2 h2]; dsimp only; rw [if_neg c5, em]) ⟨h, lim, lm, p3, n3, l3, by omega, h2, by omega, e3⟩
  · replace c1 := n_ne_f (a := kdOf b w) (b := 11) (by omega) (by omega) c1
    have hst : w.2.1 = 0 ∧ 10 < w.1 ∧ ∃ t x, tix τ w.1 = some t ∧ τ[t]? = some x ∧ A.2.2.1 nd = nI t ∧ DS (DV τ b lim A h) (fjs x.2.2.2) w.2.2 (nd + 1) l p' n' l' := by
      unfold kdOf at c1
      rcases hd4 with ⟨q1, len, p1, q2, q3, q4, q5⟩ | ⟨q1, q2, q3, v, q4, q5, q6, q7⟩ | ⟨q1, q2, q3, tv, q4, q5⟩ | ⟨q1, q2, q3, q4, q5, v, q6, q7, q8⟩ | ⟨q1, q2, t, x, q3, q4, q5, q6, q7, q8⟩
      · rw [if_pos q1] at c1; omega
      · rw [if_neg (by omega), if_pos q1] at c1; omega
      · rw [if_neg (by omega), if_neg (by omega), if_pos q2] at c1
        by_cases g : b w.2.2 = 0
        · rw [if_pos g] at c1; omega
        · rw [if_neg g] at c1
          by_cases g2 : b w.2.2 = 2
          · rw [if_pos g2] at c1; omega
          · rw [if_neg g2] at c1; omega
      · rw [if_neg (by omega), if_neg (by omega), if_neg (by omega), if_pos q3] at c1; omega
      · exact ⟨q1, q2, t, x, q3, q4, q7, q8⟩
    obtain ⟨q1, q2, t, x, q3, q4, q7, q8⟩ := hst
    have htl := (wf_ty hwf q4).2
    have hwl := hwf.1
    have hxk := (wf_ty hwf q4).1
    unfold tyOK at hxk
    obtain ⟨⟨st, en, tk, fq, nc, g0⟩, ⟨F, g1, gF⟩, g2⟩ := id hO
    obtain ⟨t0, f1, f2, f3, t1, t2, t3, t4⟩ := g2 t x q4
    have stp0 : stp τ b tot w step = (match fdx x.2.2.2 step with
        | none => none
        | some f => (match x.2.2.2[f]? with
          | none => none
          | some y => (match rvs (rv τ b false tot 21) (fjs (x.2.2.2.take f)) w.2.2 0 with
            | .inl _ => none
            | .inr (p2, _) => some (y.2.1, y.2.2, p2)))) := by
      unfold stp
      rw [if_neg (by omega), if_pos ⟨q1, q2⟩, q3]
      dsimp only
      rw [q4]
      rfl
    refine wp_step rfl rfl ?_
    refine wp_getg rfl hv.1 (by decide) rfl ?_
    refine wp_step rfl rfl ?_
    refine wp_ald rfl (Or.inl ⟨rfl, rfl⟩) (by omega) hv.2.2.2.1 (am_in_nI (by omega) (by decide)) ?_
    rw [nI_clamp (by omega)]
    rw [q7]
    refine wp_if rfl (fun c2 => ?_) (fun c2 => ?_)
    · replace c2 := z_lt_t (a := t) (by omega) c2
      exact c2.elim
    · replace c2 := z_lt_f (a := t) (by omega) c2
      refine wp_step rfl rfl ?_
      refine wp_getg rfl g0 (by decide) rfl ?_
      refine wp_step rfl rfl ?_
      refine wp_getg rfl hv.1 (by decide) rfl ?_
      refine wp_step rfl rfl ?_
      refine wp_ald rfl (Or.inl ⟨rfl, rfl⟩) (by omega) hv.2.2.2.1 (am_in_nI (by omega) (by decide)) ?_
      rw [nI_clamp (by omega)]
      rw [q7]
      refine wp_aald rfl (by omega) g1 (by decide) (am_in_nI (by omega) (by decide)) ?_
      rw [nI_clamp (by omega)]
      rw [gF t (by omega)]
      refine wp_step rfl rfl ?_
      refine wp_c0 rfl rfl (by decide) rfl (recv_ok t0 rfl) rfl (q_fieldNamed (w := step) t0 t1 (fun i y hy => (t4 i y hy).1) (fun i y hy => by have := (wf_fd hwf q4 hy).1; unfold fdOK at this; omega) (by omega) (by omega) (by omega) ?_)
      iterate 2 refine wp_step rfl rfl ?_
      cases ef : fdx x.2.2.2 step with
      | none => exact out (by rw [stp0, ef])
      | some f =>
        have hfx := fsti_some ef
        have hfl : f < x.2.2.2.length := by omega
        obtain ⟨y, hy⟩ : ∃ y, x.2.2.2[f]? = some y := ⟨_, List.getElem?_eq_getElem hfl⟩
        show wp X (d + 1) 71 87 [some (.ref v), some (.ref c), some (.int (nI nd)), some (.int (nI step)), some (.int (nI f)), none, none] [] S Q
        iterate 2 refine wp_step rfl rfl ?_
        refine wp_icmp_t rfl (by show am_c2 .ne (nI f) (-1) = true; exact decide_eq_true (nI_ne1 (by omega))) ?_
        iterate 3 refine wp_step rfl rfl ?_
        rw [show nI nd + Int32.ofInt 1 = nI (nd + 1) from nI_add nd 1]
        iterate 3 refine wp_step rfl rfl ?_
        show wp X (d + 1) 71 103 [some (.ref v), some (.ref c), some (.int (nI nd)), some (.int (nI step)), some (.int (nI f)), some (.int (nI (nd + 1))), some (.int (nI 0))] [] S Q
        refine pt_loop hv (by omega) hv9 f 0 (fjs x.2.2.2) w.2.2 (nd + 1) l (by omega) (by simp; omega) q8 hd3 (fun pm nm lm e1 e2 => ?_)
        rw [show (fjs x.2.2.2).take f = fjs (x.2.2.2.take f) from (List.map_take ..).symm] at e1
        rw [show (fjs x.2.2.2).drop f = (y.2.1, y.2.2) :: fjs (x.2.2.2.drop (f + 1)) from by
          rw [show (fjs x.2.2.2).drop f = fjs (x.2.2.2.drop f) from (List.map_drop ..).symm, List.drop_eq_getElem_cons hfl]
          rw [List.getElem?_eq_getElem hfl] at hy
          cases hy
          rfl] at e2
        obtain ⟨p3, n3, l3, e3, e4⟩ := e2
        obtain ⟨m', em⟩ := DS_rv (DV_rv h2 h 21 (by omega)) e1 0
        have hle := DS_le (DV_le h) e4
        exact hsome (y.2.1, y.2.2, pm) nm (by rw [stp0, ef]; dsimp only; rw [hy]; dsimp only; rw [em]) ⟨h, lim, lm, p3, n3, l3, by omega, h2, by omega, e3⟩
end FIND
