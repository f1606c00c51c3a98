/-! Filter.read -/
def fI (s : jF) (k : Nat) : Prop := s.1 ≤ 8 ∧ s.2.2.1.length ≤ 11 ∧ s.2.2.2.2.2.1 ≤ 9 ∧ s.2.2.2.2.1 ≤ k
theorem tkStep_inv {s : jF} {c k : Nat} (h : fI s k) (h9 : (tkStep s c).1 ≠ 9) : fI (tkStep s c) (k + 1) := by
  unfold fI at h
  unfold tkStep at h9 ⊢
  split at h9
  · rename_i g; rw [if_pos g]; unfold fI; dsimp only; omega
  · exact absurd rfl h9
theorem tkSign_inv {s : jF} {c k : Nat} (h : fI s k) (h9 : (tkSign s c).1 ≠ 9) : fI (tkSign s c) (k + 1) := by
  unfold fI at h
  unfold tkSign at h9 ⊢
  split at h9
  · rename_i g; rw [if_pos g]; unfold fI; dsimp only; rw [List.length_cons]; have := g.2; omega
  · exact absurd rfl h9
theorem tkDigit_inv {s : jF} {c k : Nat} (h : fI s k) (h9 : (tkDigit s c).1 ≠ 9) : fI (tkDigit s c) (k + 1) := by
  unfold fI at h
  unfold tkDigit at h9 ⊢
  split at h9
  · exact absurd rfl h9
  · rename_i x cs e
    split at h9
    · rename_i g
      rw [if_pos g]
      unfold fI
      dsimp only
      rw [e] at h
      rw [List.length_cons] at h ⊢
      have := g.2
      omega
    · exact absurd rfl h9
theorem fst1_inv {s : jF} {c k : Nat} (h : fI s k) (h9 : (fst1 s c).1 ≠ 9) : fI (fst1 s c) (k + 1) := by
  have h' := h
  unfold fI at h'
  unfold fst1 at h9 ⊢
  by_cases c0 : s.1 = 0
  · rw [if_pos c0] at h9 ⊢
    by_cases g : 65 ≤ c ∧ c ≤ 90
    · rw [if_pos g] at h9 ⊢; unfold fI; dsimp only; omega
    · rw [if_neg g] at h9 ⊢; exact tkStep_inv h h9
  · rw [if_neg c0] at h9 ⊢
    by_cases c1 : s.1 = 1
    · rw [if_pos c1] at h9 ⊢
      by_cases g : c = 58
      · rw [if_pos g] at h9 ⊢; unfold fI; dsimp only; omega
      · rw [if_neg g] at h9; exact absurd rfl h9
    · rw [if_neg c1] at h9 ⊢
      by_cases c3 : s.1 = 3
      · rw [if_pos c3] at h9 ⊢
        by_cases g : c = 46
        · rw [if_pos g] at h9 ⊢
          by_cases g2 : s.2.2.2.2.1 < 4
          · rw [if_pos g2] at h9 ⊢; unfold fI; dsimp only; omega
          · rw [if_neg g2] at h9; exact absurd rfl h9
        · rw [if_neg g] at h9 ⊢; exact tkSign_inv h h9
      · rw [if_neg c3] at h9 ⊢
        by_cases c5 : s.1 = 5
        · rw [if_pos c5] at h9 ⊢
          by_cases g : c = 45
          · rw [if_pos g] at h9 ⊢; unfold fI; dsimp only; omega
          · rw [if_neg g] at h9 ⊢; exact tkDigit_inv h h9
        · rw [if_neg c5] at h9 ⊢
          by_cases c6 : s.1 = 6
          · rw [if_pos c6] at h9 ⊢; exact tkDigit_inv h h9
          · rw [if_neg c6] at h9 ⊢
            by_cases c7 : s.1 = 7
            · rw [if_pos c7] at h9 ⊢
              by_cases g : c = 38
              · rw [if_pos g] at h9 ⊢; unfold fI; dsimp only; omega
              · rw [if_neg g] at h9 ⊢; exact tkDigit_inv h h9
            · rw [if_neg c7] at h9 ⊢; exact tkStep_inv h h9
theorem fst1_dg {s : jF} {c : Nat} (h : s.2.2.2.2.2.1 ≤ 9) : (fst1 s c).2.2.2.2.2.1 ≤ 9 := by
  have a1 : (tkStep s c).2.2.2.2.2.1 ≤ 9 := by
    unfold tkStep
    split
    · exact h
    · exact h
  have a2 : (tkSign s c).2.2.2.2.2.1 ≤ 9 := by
    unfold tkSign
    split
    · exact Nat.zero_le _
    · exact h
  have a3 : (tkDigit s c).2.2.2.2.2.1 ≤ 9 := by
    unfold tkDigit
    split
    · exact h
    · split
      · rename_i g; have := g.2; dsimp only; omega
      · exact h
  unfold fst1
  repeat' split
  all_goals first | exact h | exact a1 | exact a2 | exact a3
section FILTER2
variable {X : Nat × (Nat → Int32)} {d : Nat} {Q : am_R → Prop} {ln : Int32} {c : Nat}
set_option maxHeartbeats 1000000 in
theorem q_stateAfter {s : jF} {P : jFA} {S : am_S} {k : Nat} (h : flS S ln s P) (hI : fI s k) (hk : k ≤ 40) (hc : c < 65536) (hq : ∀ T P', fr [393, 395, 396, 397] S T → flS T ln (s.1, (fst1 s c).2) P' → Q (.inl (some (.int (nI (fst1 s c).1))), T)) : ev X (d + 2) 20 [.ref 393, .int (nI c)] S Q := by
  refine ev_wp (L0 := [some (.ref 393), some (.int (nI c))]) (Nat.le_of_ble_eq_true rfl) rfl ?_
  obtain ⟨i1, i2, i3, i4⟩ := hI
  have hs9 : s.1 = 0 ∨ s.1 = 1 ∨ s.1 = 2 ∨ s.1 = 3 ∨ s.1 = 4 ∨ s.1 = 5 ∨ s.1 = 6 ∨ s.1 = 7 ∨ s.1 = 8 := by omega
  refine wp_step rfl rfl ?_
  refine wp_getg (v := (.int (nI s.1))) rfl h.1 (by decide) rfl ?_
  rcases hs9 with e0 | e0 | e0 | e0 | e0 | e0 | e0 | e0 | e0
  · rw [e0]
    refine wp_tsw (q := 52) rfl rfl ?_
    unfold fst1 at hq; rw [if_pos e0] at hq
    have bad : ¬ (65 ≤ c ∧ c ≤ 90) → wp X (d + 1) 20 72 [some (.ref 393), some (.int (nI c))] [] S Q := by
      intro hb
      iterate 2 refine wp_step rfl rfl ?_
      refine wp_c0 rfl rfl (by decide) rfl (recv_ok h.1 rfl) rfl (q_tkStep h hc (fun T P' hf h1 => ?_))
      refine wp_iret rfl rfl rfl (by rw [if_neg hb] at hq; exact hq T P' hf h1)
    iterate 2 refine wp_step rfl rfl ?_
    refine wp_icmp rfl (fun c0 => ?_) (fun c0 => ?_)
    · replace c0 := n_lt_t (a := c) (b := 65) (by omega) (by omega) c0
      exact bad (by omega)
    · replace c0 := n_lt_f (a := c) (b := 65) (by omega) (by omega) c0
      iterate 2 refine wp_step rfl rfl ?_
      refine wp_icmp rfl (fun c1 => ?_) (fun c1 => ?_)
      · replace c1 := n_gt_t (a := c) (b := 90) (by omega) (by omega) c1
        exact bad (by omega)
      · replace c1 := n_gt_f (a := c) (b := 90) (by omega) (by omega) c1
        iterate 2 refine wp_step rfl rfl ?_
        refine wp_c0 rfl rfl (by decide) rfl (recv_ok h.1 rfl) rfl (q_tkName h hc (fun T P' hf h1 => ?_))
        refine wp_step rfl rfl ?_
        refine wp_iret rfl rfl rfl (by rw [if_pos ⟨c0, c1⟩] at hq; exact hq T P' hf h1)
  · rw [e0]
    refine wp_tsw (q := 78) rfl rfl ?_
    unfold fst1 at hq; rw [if_neg (by omega), if_pos e0] at hq
    iterate 2 refine wp_step rfl rfl ?_
    refine wp_icmp rfl (fun c0 => ?_) (fun c0 => ?_)
    · replace c0 := n_ne_t (a := c) (b := 58) (by omega) (by omega) c0
      refine wp_step rfl rfl ?_
      refine wp_iret rfl rfl rfl (by rw [if_neg c0] at hq; exact hq S P (fr_refl _ _) h)
    · replace c0 := n_ne_f (a := c) (b := 58) (by omega) (by omega) c0
      iterate 2 refine wp_step rfl rfl ?_
      refine wp_iret rfl rfl rfl (by rw [if_pos c0] at hq; exact hq S P (fr_refl _ _) h)
  · rw [e0]
    refine wp_tsw (q := 152) rfl rfl ?_
    unfold fst1 at hq; rw [if_neg (by omega), if_neg (by omega), if_neg (by omega), if_neg (by omega), if_neg (by omega), if_neg (by omega)] at hq
    iterate 2 refine wp_step rfl rfl ?_
    refine wp_c0 rfl rfl (by decide) rfl (recv_ok h.1 rfl) rfl (q_tkStep h hc (fun T P' hf h1 => ?_))
    refine wp_iret rfl rfl rfl (hq T P' hf h1)
  · rw [e0]
    refine wp_tsw (q := 91) rfl rfl ?_
    unfold fst1 at hq; rw [if_neg (by omega), if_neg (by omega), if_pos e0] at hq
    iterate 2 refine wp_step rfl rfl ?_
    refine wp_icmp rfl (fun c0 => ?_) (fun c0 => ?_)
    · replace c0 := n_ne_t (a := c) (b := 46) (by omega) (by omega) c0
      iterate 2 refine wp_step rfl rfl ?_
      refine wp_c0 rfl rfl (by decide) rfl (recv_ok h.1 rfl) rfl (q_tkSign h hc i2 (fun T P' hf h1 => ?_))
      refine wp_iret rfl rfl rfl (by rw [if_neg c0] at hq; exact hq T P' hf h1)
    · replace c0 := n_ne_f (a := c) (b := 46) (by omega) (by omega) c0
      refine wp_step rfl rfl ?_
      refine wp_c0 rfl rfl (by decide) rfl (recv_ok h.1 rfl) rfl (q_tkDot h (by omega) ?_)
      refine wp_step rfl rfl ?_
      refine wp_iret rfl rfl rfl (by
        rw [if_pos c0] at hq
        by_cases g : s.2.2.2.2.1 < 4
        · rw [if_pos g] at hq ⊢; exact hq S P (fr_refl _ _) h
        · rw [if_neg g] at hq ⊢; exact hq S P (fr_refl _ _) h)
  · rw [e0]
    refine wp_tsw (q := 152) rfl rfl ?_
    unfold fst1 at hq; rw [if_neg (by omega), if_neg (by omega), if_neg (by omega), if_neg (by omega), if_neg (by omega), if_neg (by omega)] at hq
    iterate 2 refine wp_step rfl rfl ?_
    refine wp_c0 rfl rfl (by decide) rfl (recv_ok h.1 rfl) rfl (q_tkStep h hc (fun T P' hf h1 => ?_))
    refine wp_iret rfl rfl rfl (hq T P' hf h1)
  · rw [e0]
    refine wp_tsw (q := 110) rfl rfl ?_
    unfold fst1 at hq; rw [if_neg (by omega), if_neg (by omega), if_neg (by omega), if_pos e0] at hq
    iterate 2 refine wp_step rfl rfl ?_
    refine wp_icmp rfl (fun c0 => ?_) (fun c0 => ?_)
    · replace c0 := n_ne_t (a := c) (b := 45) (by omega) (by omega) c0
      iterate 2 refine wp_step rfl rfl ?_
      refine wp_c0 rfl rfl (by decide) rfl (recv_ok h.1 rfl) rfl (q_tkDigit h hc i2 i3 (fun T P' hf h1 => ?_))
      refine wp_iret rfl rfl rfl (by rw [if_neg c0] at hq; exact hq T P' hf h1)
    · replace c0 := n_ne_f (a := c) (b := 45) (by omega) (by omega) c0
      refine wp_step rfl rfl ?_
      refine wp_c0 rfl rfl (by decide) rfl (recv_ok h.1 rfl) rfl (q_tkMinus h (fun T P' hf h1 => ?_))
      refine wp_step rfl rfl ?_
      refine wp_iret rfl rfl rfl (by rw [if_pos c0] at hq; exact hq T P' hf h1)
  · rw [e0]
    refine wp_tsw (q := 129) rfl rfl ?_
    unfold fst1 at hq; rw [if_neg (by omega), if_neg (by omega), if_neg (by omega), if_neg (by omega), if_pos e0] at hq
    iterate 2 refine wp_step rfl rfl ?_
    refine wp_c0 rfl rfl (by decide) rfl (recv_ok h.1 rfl) rfl (q_tkDigit h hc i2 i3 (fun T P' hf h1 => ?_))
    refine wp_iret rfl rfl rfl (hq T P' hf h1)
  · rw [e0]
    refine wp_tsw (q := 135) rfl rfl ?_
    unfold fst1 at hq; rw [if_neg (by omega), if_neg (by omega), if_neg (by omega), if_neg (by omega), if_neg (by omega), if_pos e0] at hq
    iterate 2 refine wp_step rfl rfl ?_
    refine wp_icmp rfl (fun c0 => ?_) (fun c0 => ?_)
    · replace c0 := n_ne_t (a := c) (b := 38) (by omega) (by omega) c0
      iterate 2 refine wp_step rfl rfl ?_
      refine wp_c0 rfl rfl (by decide) rfl (recv_ok h.1 rfl) rfl (q_tkDigit h hc i2 i3 (fun T P' hf h1 => ?_))
      refine wp_iret rfl rfl rfl (by rw [if_neg c0] at hq; exact hq T P' hf h1)
    · replace c0 := n_ne_f (a := c) (b := 38) (by omega) (by omega) c0
      iterate 2 refine wp_step rfl rfl ?_
      refine wp_iret rfl rfl rfl (by rw [if_pos c0] at hq; exact hq S P (fr_refl _ _) h)
  · rw [e0]
    refine wp_tswd (q := 152) rfl (Or.inr (by decide)) rfl ?_
    unfold fst1 at hq; rw [if_neg (by omega), if_neg (by omega), if_neg (by omega), if_neg (by omega), if_neg (by omega), if_neg (by omega)] at hq
    iterate 2 refine wp_step rfl rfl ?_
    refine wp_c0 rfl rfl (by decide) rfl (recv_ok h.1 rfl) rfl (q_tkStep h hc (fun T P' hf h1 => ?_))
    refine wp_iret rfl rfl rfl (hq T P' hf h1)
set_option maxHeartbeats 1000000 in
theorem fr_loop {cs : List Nat} {ty : Nat → Int32} (h40 : cs.length ≤ 40) (hD : ∀ (i c : Nat), cs[i]? = some c → ty i = nI c ∧ c < 65536) : ∀ (m i : Nat) (s : jF) (P : jFA) (S : am_S), i + m = cs.length → flS S ln s P → fI s i → am_get S 394 = some (cA 40 ty) →
    (∀ k T, frun (cs.drop i) i s = .inl k → fr [393, 395, 396, 397] S T → (∃ s' P', flS T ln s' P' ∧ s'.2.2.2.2.2.1 ≤ 9) → Q (.inl (some (.int (nI k))), T)) →
    (∀ s' P' T, frun (cs.drop i) i s = .inr s' → fr [393, 395, 396, 397] S T → flS T ln s' P' → fI s' cs.length → wp X (d + 2) 19 73 [some (.ref 393), some (.int (nI cs.length)), some (.int (nI cs.length))] [] T Q) →
    wp X (d + 2) 19 37 [some (.ref 393), some (.int (nI cs.length)), some (.int (nI i))] [] S Q := by
  intro m
  induction m with
  | zero =>
    intro i s P S hi h hI ht hbad hok
    have e9 : i = cs.length := by omega
    subst e9
    iterate 2 refine wp_step rfl rfl ?_
    refine wp_icmp rfl (fun c0 => ?_) (fun c0 => ?_)
    · replace c0 := n_ge_t (a := cs.length) (b := cs.length) (by omega) (by omega) c0
      exact hok s P S (by rw [List.drop_length]; rfl) (fr_refl _ _) h hI
    · replace c0 := n_ge_f (a := cs.length) (b := cs.length) (by omega) (by omega) c0
      omega
  | succ m ih =>
    intro i s P S hi h hI ht hbad hok
    iterate 2 refine wp_step rfl rfl ?_
    refine wp_icmp rfl (fun c0 => ?_) (fun c0 => ?_)
    · replace c0 := n_ge_t (a := i) (b := cs.length) (by omega) (by omega) c0
      omega
    · replace c0 := n_ge_f (a := i) (b := cs.length) (by omega) (by omega) c0
      obtain ⟨c, hc⟩ : ∃ c, cs[i]? = some c := ⟨_, List.getElem?_eq_getElem c0⟩
      have hcb := hD i c hc
      have hdr : cs.drop i = c :: cs.drop (i + 1) := by
        rw [List.drop_eq_getElem_cons c0]
        rw [List.getElem?_eq_getElem c0] at hc
        cases hc
        rfl
      iterate 3 refine wp_step rfl rfl ?_
      refine wp_getg rfl h.1 (by decide) rfl ?_
      refine wp_step rfl rfl ?_
      refine wp_ald rfl (Or.inr (Or.inr ⟨rfl, rfl⟩)) (by decide) ht (am_in_nI (by omega) (by decide)) ?_
      rw [nI_clamp (by omega)]
      rw [hcb.1]
      refine wp_c0 rfl rfl (by decide) rfl (recv_ok h.1 rfl) rfl (q_stateAfter h hI (by omega) hcb.2 (fun T P1 hf1 h1 => ?_))
      refine wp_putg rfl h1.1 (by decide) rfl rfl ?_
      have h2 : flS (am_upd T 393 (ob 2 12 (va_up (flG ln (nI (fst1 s c).2.1) (nI (fst1 s c).2.2.1.length) (nI s.1) (fst1 s c).2.2.2.1 (nI (fst1 s c).2.2.2.2.1) (nI (fst1 s c).2.2.2.2.2.1) (bI (fst1 s c).2.2.2.2.2.2)) 7 (.int (nI (fst1 s c).1))))) ln (fst1 s c) P1 := by
        rw [flG_7]
        exact flS_0 (s' := fst1 s c) h1 rfl rfl
      show wp X (d + 2) 19 56 [some (.ref 393), some (.int (nI cs.length)), some (.int (nI i))] [] (am_upd T 393 (ob 2 12 (va_up (flG ln (nI (fst1 s c).2.1) (nI (fst1 s c).2.2.1.length) (nI s.1) (fst1 s c).2.2.2.1 (nI (fst1 s c).2.2.2.2.1) (nI (fst1 s c).2.2.2.2.2.1) (bI (fst1 s c).2.2.2.2.2.2)) 7 (.int (nI (fst1 s c).1))))) Q
      have hf2 : fr [393, 395, 396, 397] S (am_upd T 393 (ob 2 12 (va_up (flG ln (nI (fst1 s c).2.1) (nI (fst1 s c).2.2.1.length) (nI s.1) (fst1 s c).2.2.2.1 (nI (fst1 s c).2.2.2.2.1) (nI (fst1 s c).2.2.2.2.2.1) (bI (fst1 s c).2.2.2.2.2.2)) 7 (.int (nI (fst1 s c).1))))) := fr_upd hf1 (by simp)
      generalize am_upd T 393 (ob 2 12 (va_up (flG ln (nI (fst1 s c).2.1) (nI (fst1 s c).2.2.1.length) (nI s.1) (fst1 s c).2.2.2.1 (nI (fst1 s c).2.2.2.2.1) (nI (fst1 s c).2.2.2.2.2.1) (bI (fst1 s c).2.2.2.2.2.2)) 7 (.int (nI (fst1 s c).1)))) = T2 at h2 hf2 ⊢
      have h19 : (fst1 s c).1 ≤ 9 := by
        by_cases g : (fst1 s c).1 = 9
        · omega
        · have := (fst1_inv hI g).1; omega
      refine wp_step rfl rfl ?_
      refine wp_getg (v := (.int (nI (fst1 s c).1))) rfl h2.1 (by decide) rfl ?_
      refine wp_step rfl rfl ?_
      refine wp_icmp rfl (fun c1 => ?_) (fun c1 => ?_)
      · replace c1 := n_ne_t (a := (fst1 s c).1) (b := 9) (by omega) (by omega) c1
        iterate 2 refine wp_step rfl rfl ?_
        rw [show nI i + Int32.ofInt 1 = nI (i + 1) from nI_add i 1]
        exact ih (i + 1) (fst1 s c) P1 T2 (by omega) h2 (fst1_inv hI c1) (by rw [fr_get hf2 (by decide)]; exact ht) (fun k T3 e3 hf3 hs3 => hbad k T3 (by rw [hdr]; unfold frun; rw [if_neg c1]; exact e3) (fr_trans hf2 hf3) hs3) (fun s3 P3 T3 e3 hf3 hs3 => hok s3 P3 T3 (by rw [hdr]; unfold frun; rw [if_neg c1]; exact e3) (fr_trans hf2 hf3) hs3)
      · replace c1 := n_ne_f (a := (fst1 s c).1) (b := 9) (by omega) (by omega) c1
        refine wp_step rfl rfl ?_
        refine wp_iret rfl rfl rfl (hbad i T2 (by rw [hdr]; unfold frun; rw [if_pos c1]) hf2 ⟨_, _, h2, fst1_dg hI.2.2.1⟩)
def fsm (s t : jF) : Prop := s.1 = t.1 ∧ s.2.1 = t.2.1 ∧ s.2.2.1 = t.2.2.1 ∧ s.2.2.2.1 = t.2.2.2.1 ∧ s.2.2.2.2.1 = t.2.2.2.2.1 ∧ (s.2.2.1 ≠ [] → s.2.2.2.2.2 = t.2.2.2.2.2)
theorem fsm_refl (s : jF) : fsm s s := ⟨rfl, rfl, rfl, rfl, rfl, fun _ => rfl⟩
theorem fst1_sim {s t : jF} {c : Nat} (h : fsm s t) : fsm (fst1 s c) (fst1 t c) := by
  obtain ⟨a, nm, cs, p, k, x⟩ := s
  obtain ⟨a2, nm2, cs2, p2, k2, y⟩ := t
  obtain ⟨h1, h2, h3, h4, h5, h6⟩ := h
  dsimp only at h1 h2 h3 h4 h5 h6
  subst h1; subst h2; subst h3; subst h4; subst h5
  cases cs with
  | cons z cs =>
    have e := h6 (by simp)
    subst e
    exact fsm_refl _
  | nil =>
    have st : fsm (tkStep (a, nm, [], p, k, x) c) (tkStep (a, nm, [], p, k, y) c) := by
      unfold tkStep
      split
      · exact ⟨rfl, rfl, rfl, rfl, rfl, fun h => absurd rfl h⟩
      · exact ⟨rfl, rfl, rfl, rfl, rfl, fun h => absurd rfl h⟩
    have sg : fsm (tkSign (a, nm, [], p, k, x) c) (tkSign (a, nm, [], p, k, y) c) := by
      unfold tkSign
      split
      · exact ⟨rfl, rfl, rfl, rfl, rfl, fun _ => rfl⟩
      · exact ⟨rfl, rfl, rfl, rfl, rfl, fun h => absurd rfl h⟩
    have dg : fsm (tkDigit (a, nm, [], p, k, x) c) (tkDigit (a, nm, [], p, k, y) c) := ⟨rfl, rfl, rfl, rfl, rfl, fun h => absurd rfl h⟩
    have ju : ∀ (m w : Nat) (u v : Nat × Bool), fsm (m, w, [], p, k, u) (m, w, [], p, k, v) := fun m w u v => ⟨rfl, rfl, rfl, rfl, rfl, fun h => absurd rfl h⟩
    unfold fst1
    dsimp only
    by_cases c0 : a = 0
    · rw [if_pos c0, if_pos c0]
      by_cases g : 65 ≤ c ∧ c ≤ 90
      · rw [if_pos g, if_pos g]; exact ju _ _ _ _
      · rw [if_neg g, if_neg g]; exact st
    · rw [if_neg c0, if_neg c0]
      by_cases c1 : a = 1
      · rw [if_pos c1, if_pos c1]
        by_cases g : c = 58
        · rw [if_pos g, if_pos g]; exact ju _ _ _ _
        · rw [if_neg g, if_neg g]; exact ju _ _ _ _
      · rw [if_neg c1, if_neg c1]
        by_cases c3 : a = 3
        · rw [if_pos c3, if_pos c3]
          by_cases g : c = 46
          · rw [if_pos g, if_pos g]
            by_cases g2 : k < 4
            · rw [if_pos g2, if_pos g2]; exact ju _ _ _ _
            · rw [if_neg g2, if_neg g2]; exact ju _ _ _ _
          · rw [if_neg g, if_neg g]; exact sg
        · rw [if_neg c3, if_neg c3]
          by_cases c5 : a = 5
          · rw [if_pos c5, if_pos c5]
            by_cases g : c = 45
            · rw [if_pos g, if_pos g]; exact ju _ _ _ _
            · rw [if_neg g, if_neg g]; exact dg
          · rw [if_neg c5, if_neg c5]
            by_cases c6 : a = 6
            · rw [if_pos c6, if_pos c6]; exact dg
            · rw [if_neg c6, if_neg c6]
              by_cases c7 : a = 7
              · rw [if_pos c7, if_pos c7]
                by_cases g : c = 38
                · rw [if_pos g, if_pos g]; exact ju _ _ _ _
                · rw [if_neg g, if_neg g]; exact dg
              · rw [if_neg c7, if_neg c7]; exact st
theorem frun_sim : ∀ (cs : List Nat) (k : Nat) {s t : jF}, fsm s t → (∃ k', frun cs k s = .inl k' ∧ frun cs k t = .inl k') ∨ (∃ s' t', frun cs k s = .inr s' ∧ frun cs k t = .inr t' ∧ fsm s' t') := by
  intro cs
  induction cs with
  | nil => intro k s t h; exact Or.inr ⟨s, t, rfl, rfl, h⟩
  | cons c cs ih =>
    intro k s t h
    have h1 := fst1_sim (c := c) h
    unfold frun
    by_cases g : (fst1 s c).1 = 9
    · rw [if_pos g, if_pos (h1.1 ▸ g)]; exact Or.inl ⟨k, rfl, rfl⟩
    · rw [if_neg g, if_neg (fun g2 => g (h1.1.trans g2))]; exact ih (k + 1) h1
set_option maxHeartbeats 1000000 in
theorem q_flRead {cs : List Nat} {ty : Nat → Int32} {s : jF} {P : jFA} {S : am_S} (h : flS S (nI cs.length) s P) (hdg : s.2.2.2.2.2.1 ≤ 9) (h40 : cs.length ≤ 40) (ht : am_get S 394 = some (cA 40 ty)) (hD : ∀ (i c : Nat), cs[i]? = some c → ty i = nI c ∧ c < 65536)
    (hbad : ∀ k T, fres cs = .inl k → fr [393, 395, 396, 397] S T → (∃ s' P', flS T (nI 0) s' P' ∧ s'.2.2.2.2.2.1 ≤ 9) → Q (.inl (some (.int (nI k))), T))
    (hgood : ∀ s' P' T, fres cs = .inr (s'.2.1, s'.2.2.1.reverse) → fr [393, 395, 396, 397] S T → flS T (nI 0) s' P' → fI s' cs.length → Q (.inl (some (.int (-1))), T)) : ev X (d + 3) 19 [.ref 393] S Q := by
  refine ev_wp (L0 := [some (.ref 393), none, none]) (Nat.le_of_ble_eq_true rfl) rfl ?_
  refine wp_step rfl rfl ?_
  refine wp_getg (v := (.int (nI cs.length))) rfl h.1 (by decide) rfl ?_
  refine wp_step rfl rfl ?_
  iterate 2 refine wp_step rfl rfl ?_
  refine wp_putg rfl (show am_get _ 393 = some (flC (nI cs.length) (nI s.2.1) (nI s.2.2.1.length) (nI s.1) s.2.2.2.1 (nI s.2.2.2.2.1) (nI s.2.2.2.2.2.1) (bI s.2.2.2.2.2.2)) from h.1) (by decide) rfl rfl ?_
  rw [show va_up (flG (nI cs.length) (nI s.2.1) (nI s.2.2.1.length) (nI s.1) s.2.2.2.1 (nI s.2.2.2.2.1) (nI s.2.2.2.2.2.1) (bI s.2.2.2.2.2.2)) 1 (.int (Int32.ofInt 0)) = flG (nI 0) (nI s.2.1) (nI s.2.2.1.length) (nI s.1) s.2.2.2.1 (nI s.2.2.2.2.1) (nI s.2.2.2.2.2.1) (bI s.2.2.2.2.2.2) from flG_1]
  iterate 2 refine wp_step rfl rfl ?_
  refine wp_putg rfl (show am_get _ 393 = some (flC (nI 0) (nI s.2.1) (nI s.2.2.1.length) (nI s.1) s.2.2.2.1 (nI s.2.2.2.2.1) (nI s.2.2.2.2.2.1) (bI s.2.2.2.2.2.2)) from am_get_self h.1) (by decide) rfl rfl ?_
  rw [am_upd_upd, show va_up (flG (nI 0) (nI s.2.1) (nI s.2.2.1.length) (nI s.1) s.2.2.2.1 (nI s.2.2.2.2.1) (nI s.2.2.2.2.2.1) (bI s.2.2.2.2.2.2)) 2 (.int (Int32.ofInt 0)) = flG (nI 0) (nI 0) (nI s.2.2.1.length) (nI s.1) s.2.2.2.1 (nI s.2.2.2.2.1) (nI s.2.2.2.2.2.1) (bI s.2.2.2.2.2.2) from flG_2]
  iterate 2 refine wp_step rfl rfl ?_
  refine wp_putg rfl (show am_get _ 393 = some (flC (nI 0) (nI 0) (nI s.2.2.1.length) (nI s.1) s.2.2.2.1 (nI s.2.2.2.2.1) (nI s.2.2.2.2.2.1) (bI s.2.2.2.2.2.2)) from am_get_self h.1) (by decide) rfl rfl ?_
  rw [am_upd_upd, show va_up (flG (nI 0) (nI 0) (nI s.2.2.1.length) (nI s.1) s.2.2.2.1 (nI s.2.2.2.2.1) (nI s.2.2.2.2.2.1) (bI s.2.2.2.2.2.2)) 3 (.int (Int32.ofInt 0)) = flG (nI 0) (nI 0) (nI 0) (nI s.1) s.2.2.2.1 (nI s.2.2.2.2.1) (nI s.2.2.2.2.2.1) (bI s.2.2.2.2.2.2) from flG_3]
  iterate 2 refine wp_step rfl rfl ?_
  refine wp_putg rfl (show am_get _ 393 = some (flC (nI 0) (nI 0) (nI 0) (nI s.1) s.2.2.2.1 (nI s.2.2.2.2.1) (nI s.2.2.2.2.2.1) (bI s.2.2.2.2.2.2)) from am_get_self h.1) (by decide) rfl rfl ?_
  rw [am_upd_upd, show va_up (flG (nI 0) (nI 0) (nI 0) (nI s.1) s.2.2.2.1 (nI s.2.2.2.2.1) (nI s.2.2.2.2.2.1) (bI s.2.2.2.2.2.2)) 8 (.int (Int32.ofInt 0)) = flG (nI 0) (nI 0) (nI 0) (nI s.1) (nI 0) (nI s.2.2.2.2.1) (nI s.2.2.2.2.2.1) (bI s.2.2.2.2.2.2) from flG_8]
  iterate 2 refine wp_step rfl rfl ?_
  refine wp_putg rfl (show am_get _ 393 = some (flC (nI 0) (nI 0) (nI 0) (nI s.1) (nI 0) (nI s.2.2.2.2.1) (nI s.2.2.2.2.2.1) (bI s.2.2.2.2.2.2)) from am_get_self h.1) (by decide) rfl rfl ?_
  rw [am_upd_upd, show va_up (flG (nI 0) (nI 0) (nI 0) (nI s.1) (nI 0) (nI s.2.2.2.2.1) (nI s.2.2.2.2.2.1) (bI s.2.2.2.2.2.2)) 9 (.int (Int32.ofInt 0)) = flG (nI 0) (nI 0) (nI 0) (nI s.1) (nI 0) (nI 0) (nI s.2.2.2.2.2.1) (bI s.2.2.2.2.2.2) from flG_9]
  iterate 2 refine wp_step rfl rfl ?_
  refine wp_putg rfl (show am_get _ 393 = some (flC (nI 0) (nI 0) (nI 0) (nI s.1) (nI 0) (nI 0) (nI s.2.2.2.2.2.1) (bI s.2.2.2.2.2.2)) from am_get_self h.1) (by decide) rfl rfl ?_
  rw [am_upd_upd, show va_up (flG (nI 0) (nI 0) (nI 0) (nI s.1) (nI 0) (nI 0) (nI s.2.2.2.2.2.1) (bI s.2.2.2.2.2.2)) 7 (.int (Int32.ofInt 0)) = flG (nI 0) (nI 0) (nI 0) (nI 0) (nI 0) (nI 0) (nI s.2.2.2.2.2.1) (bI s.2.2.2.2.2.2) from flG_7]
  have h1 : flS (am_upd S 393 (flC (nI 0) (nI 0) (nI 0) (nI 0) (nI 0) (nI 0) (nI s.2.2.2.2.2.1) (bI s.2.2.2.2.2.2))) (nI 0) (0, 0, [], 0, 0, s.2.2.2.2.2.1, s.2.2.2.2.2.2) P := ⟨am_get_self h.1, by rw [am_get_ne (by decide)]; exact h.2.1, by rw [am_get_ne (by decide)]; exact h.2.2.1, by rw [am_get_ne (by decide)]; exact h.2.2.2.1, trivial⟩
  have hf1 : fr [393, 395, 396, 397] S (am_upd S 393 (flC (nI 0) (nI 0) (nI 0) (nI 0) (nI 0) (nI 0) (nI s.2.2.2.2.2.1) (bI s.2.2.2.2.2.2))) := fr_up (by simp)
  have ht1 : am_get (am_upd S 393 (flC (nI 0) (nI 0) (nI 0) (nI 0) (nI 0) (nI 0) (nI s.2.2.2.2.2.1) (bI s.2.2.2.2.2.2))) 394 = some (cA 40 ty) := by rw [am_get_ne (by decide)]; exact ht
  generalize am_upd S 393 (flC (nI 0) (nI 0) (nI 0) (nI 0) (nI 0) (nI 0) (nI s.2.2.2.2.2.1) (bI s.2.2.2.2.2.2)) = S1 at h1 hf1 ht1 ⊢
  iterate 2 refine wp_step rfl rfl ?_
  show wp X (d + 2) 19 37 [some (.ref 393), some (.int (nI cs.length)), some (.int (nI 0))] [] S1 Q
  refine fr_loop h40 hD cs.length 0 (0, 0, [], 0, 0, s.2.2.2.2.2.1, s.2.2.2.2.2.2) P S1 (by omega) h1 ⟨Nat.zero_le _, Nat.zero_le _, hdg, Nat.zero_le _⟩ ht1 (fun k T e1 hf2 hs2 => ?_) (fun s2 P2 T e1 hf2 h2 hI2 => ?_)
  · rw [List.drop_zero] at e1
    rcases frun_sim cs 0 (t := (0, 0, [], 0, 0, 0, false)) (s := (0, 0, [], 0, 0, s.2.2.2.2.2.1, s.2.2.2.2.2.2)) ⟨rfl, rfl, rfl, rfl, rfl, fun h => absurd rfl h⟩ with ⟨k2, g1, g2⟩ | ⟨s', t', g1, g2, g3⟩
    · rw [g1] at e1; cases e1; exact hbad _ T (by unfold fres; rw [g2]) (fr_trans hf1 hf2) hs2
    · rw [g1] at e1; cases e1
  · rw [List.drop_zero] at e1
    obtain ⟨s3, hr, q1, q2, q3⟩ : ∃ s3, frun cs 0 (0, 0, [], 0, 0, 0, false) = .inr s3 ∧ s2.1 = s3.1 ∧ s2.2.1 = s3.2.1 ∧ s2.2.2.1 = s3.2.2.1 := by
      rcases frun_sim cs 0 (t := (0, 0, [], 0, 0, 0, false)) (s := (0, 0, [], 0, 0, s.2.2.2.2.2.1, s.2.2.2.2.2.2)) ⟨rfl, rfl, rfl, rfl, rfl, fun h => absurd rfl h⟩ with ⟨k2, g1, g2⟩ | ⟨s', t', g1, g2, g3⟩
      · rw [g1] at e1; cases e1
      · rw [g1] at e1; cases e1; exact ⟨t', g2, g3.1, g3.2.1, g3.2.2.1⟩
    have hfr : fres cs = (if s2.1 = 0 ∨ s2.1 = 2 ∨ s2.1 = 7 then .inr (s2.2.1, s2.2.2.1.reverse) else .inl cs.length) := by
      unfold fres; rw [hr]; dsimp only; rw [q1, q2, q3]
    have hs8 := hI2.1
    have good : (s2.1 = 0 ∨ s2.1 = 2 ∨ s2.1 = 7) → wp X (d + 2) 19 97 [some (.ref 393), some (.int (nI cs.length)), some (.int (nI cs.length))] [] T Q := by
      intro hg
      iterate 3 refine wp_step rfl rfl ?_
      show wp X (d + 2) 19 103 [some (.ref 393), some (.int (nI cs.length)), some (.int 1)] [] T Q
      refine wp_step rfl rfl ?_
      refine wp_if_f rfl rfl ?_
      iterate 2 refine wp_step rfl rfl ?_
      refine wp_iret rfl rfl rfl (hgood s2 P2 T (by rw [hfr, if_pos hg]) (fr_trans hf1 hf2) h2 hI2)
    refine wp_step rfl rfl ?_
    refine wp_getg (v := (.int (nI s2.1))) rfl h2.1 (by decide) rfl ?_
    refine wp_if rfl (fun d0 => ?_) (fun d0 => ?_)
    · replace d0 := z_eq_t (a := s2.1) (by omega) d0
      exact good (Or.inl d0)
    · replace d0 := z_eq_f (a := s2.1) (by omega) d0
      refine wp_step rfl rfl ?_
      refine wp_getg (v := (.int (nI s2.1))) rfl h2.1 (by decide) rfl ?_
      refine wp_step rfl rfl ?_
      refine wp_icmp rfl (fun d2 => ?_) (fun d2 => ?_)
      · replace d2 := n_eq_t (a := s2.1) (b := 2) (by omega) (by omega) d2
        exact good (Or.inr (Or.inl d2))
      · replace d2 := n_eq_f (a := s2.1) (b := 2) (by omega) (by omega) d2
        refine wp_step rfl rfl ?_
        refine wp_getg (v := (.int (nI s2.1))) rfl h2.1 (by decide) rfl ?_
        refine wp_step rfl rfl ?_
        refine wp_icmp rfl (fun d7 => ?_) (fun d7 => ?_)
        · replace d7 := n_ne_t (a := s2.1) (b := 7) (by omega) (by omega) d7
          iterate 2 refine wp_step rfl rfl ?_
          show wp X (d + 2) 19 103 [some (.ref 393), some (.int (nI cs.length)), some (.int 0)] [] T Q
          refine wp_step rfl rfl ?_
          refine wp_if_t rfl rfl ?_
          refine wp_step rfl rfl ?_
          refine wp_iret rfl rfl rfl (hbad cs.length T (by rw [hfr, if_neg (by omega)]) (fr_trans hf1 hf2) ⟨_, _, h2, hI2.2.2.1⟩)
        · replace d7 := n_ne_f (a := s2.1) (b := 7) (by omega) (by omega) d7
          exact good (Or.inr (Or.inr d7))
end FILTER2
