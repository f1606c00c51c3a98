/-! THE MODEL: filter -/
def cmW (S : am_S) (I : Nat → Int32) (st li : Int64) (cs : List Nat) : Prop := am_get S 408 = some (moC I st li) ∧ I 38 = nI cs.length ∧ cs.length ≤ 40 ∧ (∃ ty, am_get S 428 = some (iA 40 ty) ∧ mFD ty cs) ∧ (∀ c, c ∈ cs → 32 ≤ c ∧ c ≤ 126) ∧ ∃ P : jFA, am_get S 429 = some (iA 12 P.1) ∧ am_get S 430 = some (iA 12 P.2.1) ∧ am_get S 431 = some (lA 12 P.2.2)
section MFILTER
variable {X : Nat × (Nat → Int32)} {d : Nat} {Q : am_R → Prop} {st li : Int64} {cs : List Nat}
theorem cmS_W {S : am_S} {I : Nat → Int32} {P : jFA} {cm : List jC} (h : cmS S I st li cs P cm) : cmW S I st li cs := ⟨h.1, h.2.1, h.2.2.1, h.2.2.2.1, h.2.2.2.2.1, P, h.2.2.2.2.2.1, h.2.2.2.2.2.2.1, h.2.2.2.2.2.2.2.1⟩
set_option maxHeartbeats 1000000 in
theorem fl_67 {R : Nat ⊕ (Nat × List jC)} (hfr : fres cs = R) : ∀ (n m k q nm dg0 : Nat) (cm : List jC) (ng0 : Bool) (S : am_S) (I : Nat → Int32) (P : jFA), m + n = 11 → cmS S I st li cs P cm → frF cs k (q, nm, cm, 0, 0, dg0, ng0) = R → (∀ c, cs[k]? = some c → fst1 (q, nm, cm, 0, 0, dg0, ng0) c = tkStep (q, nm, cm, 0, 0, dg0, ng0) c) → (cs.length ≤ k → frF cs k (q, nm, cm, 0, 0, dg0, ng0) = .inl cs.length) → k ≤ cs.length → 4 * m ≤ k → cm.length = m → I 40 = nI nm → (∀ k T J, fres cs = .inl k → k ≤ cs.length → fr [408, 429, 430, 431] S T → gf [40, 41] I J → cmW T J st li cs → Q (.inl (some (.int (nI k))), T)) → (∀ nm cm T J P', fres cs = .inr (nm, cm) → fr [408, 429, 430, 431] S T → gf [40, 41] I J → cmS T J st li cs P' cm.reverse → J 40 = nI nm → Q (.inl (some (.int (-1))), T)) → wp X (d + 3) 148 67 [some (.ref 408), some (.int (nI k)), some (.int (nI m))] [] S Q := by
  intro n
  induction n with
  | zero =>
    intro m k q nm dg0 cm ng0 S I P hmn h hR hfst hend hkl h4 hcl h40 hbad hgood
    have := h.2.2.1
    omega
  | succ n ih =>
    intro m k q nm dg0 cm ng0 S I P hmn h hR hfst hend hkl h4 hcl h40 hbad hgood
    have hl40' := h.2.2.1
    iterate 2 refine wp_step rfl rfl ?_
    refine wp_icmp rfl (fun c0 => ?_) (fun c0 => ?_)
    · replace c0 := n_gt_t (a := m) (b := 10) (by omega) (by omega) c0
      omega
    · replace c0 := n_gt_f (a := m) (b := 10) (by omega) (by omega) c0
      iterate 2 refine wp_step rfl rfl ?_
      refine wp_c0 rfl rfl (by decide) rfl (recv_ok h.1 rfl) rfl (q_mcomparison h (by omega) hR hfst hend hkl (fun k' e1 hk' => ?_) (fun k' x s' T J P' e1 h7 hnm hcm h0 h00 hstop hk1 hk2 hf1 hg1 h1 => ?_))
      · refine wp_step rfl rfl ?_
        show wp X (d + 3) 148 79 [some (.ref 408), some (.int (Int32.ofInt (-1) - nI k')), some (.int (nI m))] [] S Q
        refine wp_step rfl rfl ?_
        refine wp_if_f rfl (c1_ge_m (by omega)) ?_
        iterate 3 refine wp_step rfl rfl ?_
        rw [m_m]
        refine wp_iret rfl rfl rfl (hbad k' S I (hfr.trans e1) hk' (fr_refl _ _) (gf_refl _ _) (cmS_W h))
      · refine wp_step rfl rfl ?_
        show wp X (d + 3) 148 79 [some (.ref 408), some (.int (nI k')), some (.int (nI m))] [] T Q
        obtain ⟨q9, nm9, cm9, pa9, sp9, dg9, ng9⟩ := s'
        dsimp only at h7 hnm hcm h0 h00
        subst h7 hnm hcm h0 h00
        have hl40 := h.2.2.1
        have j40 : J 40 = nI nm9 := (hg1 40 (by decide)).trans h40
        have hg1' : gf [40, 41] I J := gf_mono hg1 (fun j hj => by simp only [List.mem_cons, List.not_mem_nil, or_false] at hj ⊢; omega)
        refine wp_step rfl rfl ?_
        refine wp_if_t rfl (c1_ge_n (by omega)) ?_
        iterate 2 refine wp_step rfl rfl ?_
        refine wp_getg (v := (.int (nI cs.length))) rfl h1.1 (by decide) (congrArg Value.int h1.2.1) ?_
        refine wp_icmp rfl (fun c1 => ?_) (fun c1 => ?_)
        · replace c1 := n_ne_t (a := k') (b := cs.length) (by omega) (by omega) c1
          have hl9 : ltr cs k' < 127 := ltr_lt h.2.2.2.2.1
          have hklt : k' < cs.length := by omega
          have hat := ltr_at hklt
          iterate 2 refine wp_step rfl rfl ?_
          refine wp_c0 rfl rfl (by decide) rfl (recv_ok h1.1 rfl) rfl (q_clt h1 (by omega) ?_)
          refine wp_step rfl rfl ?_
          refine wp_icmp rfl (fun c2 => ?_) (fun c2 => ?_)
          · replace c2 := n_eq_t (a := ltr cs k') (b := 38) (by omega) (by omega) c2
            rw [c2] at hat
            have hR8 : frF cs (k' + 1) (8, nm9, x :: cm, 0, 0, dg9, ng9) = R := by
              rw [← e1, frF_go (s := (7, nm9, x :: cm, 0, 0, dg9, ng9)) hat (show (8 : Nat) ≠ 9 by decide)]
              rfl
            iterate 3 refine wp_step rfl rfl ?_
            rw [show nI k' + Int32.ofInt 1 = nI (k' + 1) from nI_add k' 1, show nI m + Int32.ofInt 1 = nI (m + 1) from nI_add m 1]
            show wp X (d + 3) 148 67 [some (.ref 408), some (.int (nI (k' + 1))), some (.int (nI (m + 1)))] [] T Q
            exact ih (m + 1) (k' + 1) 8 nm9 dg9 (x :: cm) ng9 T J P' (by omega) h1 hR8 (fun c hc => fs_8 _ _) (fun h9 => by rw [frF_end h9, if_neg (by dsimp only; omega)]) (by omega) (by omega) (by rw [List.length_cons]; omega) j40 (fun k2 T2 J2 a1 a2 a3 a4 a5 => hbad k2 T2 J2 a1 a2 (fr_trans hf1 a3) (gf_trans hg1' a4) a5) (fun nm2 cm2 T2 J2 P2 a1 a2 a3 a4 a5 => hgood nm2 cm2 T2 J2 P2 a1 (fr_trans hf1 a2) (gf_trans hg1' a3) a4 a5)
          · replace c2 := n_eq_f (a := ltr cs k') (b := 38) (by omega) (by omega) c2
            refine wp_step rfl rfl ?_
            refine wp_iret rfl rfl rfl (hbad k' T J (by rw [hfr, ← e1]; exact frF_bad hat (hstop _ hat c2)) hk2 hf1 hg1' (cmS_W h1))
        · replace c1 := n_ne_f (a := k') (b := cs.length) (by omega) (by omega) c1
          refine wp_step rfl rfl ?_
          refine wp_iret rfl rfl rfl (hgood nm9 (x :: cm).reverse T J P' ?_ hf1 hg1' (by rw [List.reverse_reverse]; exact h1) j40)
          rw [hfr, ← e1, frF_end (by omega), if_pos (Or.inr (Or.inr rfl))]
theorem fl_55 {S : am_S} {I : Nat → Int32} {P : jFA} {k q nm : Nat} {R : Nat ⊕ (Nat × List jC)} (hfr : fres cs = R) (h : cmS S I st li cs P []) (hR : frF cs k (q, nm, [], 0, 0, 0, false) = R) (hq : q = 0 ∨ q = 2) (hfst : ∀ c, cs[k]? = some c → fst1 (q, nm, [], 0, 0, 0, false) c = tkStep (q, nm, [], 0, 0, 0, false) c) (hkl : k ≤ cs.length) (h40 : I 40 = nI nm) (hbad : (∀ k T J, fres cs = .inl k → k ≤ cs.length → fr [408, 429, 430, 431] S T → gf [40, 41] I J → cmW T J st li cs → Q (.inl (some (.int (nI k))), T))) (hgood : (∀ nm cm T J P', fres cs = .inr (nm, cm) → fr [408, 429, 430, 431] S T → gf [40, 41] I J → cmS T J st li cs P' cm.reverse → J 40 = nI nm → Q (.inl (some (.int (-1))), T))) : wp X (d + 3) 148 55 [some (.ref 408), some (.int (nI k)), none] [] S Q := by
  have hl40' := h.2.2.1
  iterate 2 refine wp_step rfl rfl ?_
  refine wp_getg (v := (.int (nI cs.length))) rfl h.1 (by decide) (congrArg Value.int h.2.1) ?_
  refine wp_icmp rfl (fun c0 => ?_) (fun c0 => ?_)
  · replace c0 := n_ne_t (a := k) (b := cs.length) (by omega) (by omega) c0
    iterate 2 refine wp_step rfl rfl ?_
    show wp X (d + 3) 148 67 [some (.ref 408), some (.int (nI k)), some (.int (nI 0))] [] S Q
    exact fl_67 hfr 11 0 k q nm 0 [] false S I P (by omega) h hR hfst (fun h9 => by omega) hkl (by omega) rfl h40 hbad hgood
  · replace c0 := n_ne_f (a := k) (b := cs.length) (by omega) (by omega) c0
    refine wp_step rfl rfl ?_
    refine wp_iret rfl rfl rfl (hgood nm [] S I P (by rw [hfr, ← hR, frF_end (by omega), if_pos (by dsimp only; omega)]; rfl) (fr_refl _ _) (gf_refl _ _) h h40)
set_option maxHeartbeats 1000000 in
theorem q_mfilter {S : am_S} {I : Nat → Int32} (h : cmW S I st li cs) (hbad : (∀ k T J, fres cs = .inl k → k ≤ cs.length → fr [408, 429, 430, 431] S T → gf [40, 41] I J → cmW T J st li cs → Q (.inl (some (.int (nI k))), T))) (hgood : (∀ nm cm T J P', fres cs = .inr (nm, cm) → fr [408, 429, 430, 431] S T → gf [40, 41] I J → cmS T J st li cs P' cm.reverse → J 40 = nI nm → Q (.inl (some (.int (-1))), T))) : ev X (d + 4) 148 [.ref 408] S Q := by
  refine ev_wp (L0 := [some (.ref 408), none, none]) (Nat.le_of_ble_eq_true rfl) rfl ?_
  obtain ⟨h0, h38, h40, ⟨ty, ht, hty⟩, hcs, P, p1, p2, p3⟩ := h
  iterate 3 refine wp_step rfl rfl ?_
  refine wp_step rfl rfl ?_
  refine wp_putg rfl h0 (by decide) rfl rfl ?_
  rw [mkG_i rfl]
  have h_Sx1 : am_get (am_upd S 408 (moC (upd I 40 (Int32.ofInt 0)) st li)) 408 = some (moC (upd I 40 (Int32.ofInt 0)) st li) := am_get_self h0
  have hf_Sx1 : fr [408] S (am_upd S 408 (moC (upd I 40 (Int32.ofInt 0)) st li)) := fr_up (by simp)
  generalize am_upd S 408 (moC (upd I 40 (Int32.ofInt 0)) st li) = Sx1 at h_Sx1 hf_Sx1 ⊢
  iterate 2 refine wp_step rfl rfl ?_
  refine wp_putg rfl h_Sx1 (by decide) rfl rfl ?_
  rw [mkG_i rfl]
  have h_Sx2 : am_get (am_upd Sx1 408 (moC (upd (upd I 40 (Int32.ofInt 0)) 41 (Int32.ofInt 0)) st li)) 408 = some (moC (upd (upd I 40 (Int32.ofInt 0)) 41 (Int32.ofInt 0)) st li) := am_get_self h_Sx1
  have hf_Sx2 : fr [408] S (am_upd Sx1 408 (moC (upd (upd I 40 (Int32.ofInt 0)) 41 (Int32.ofInt 0)) st li)) := fr_trans hf_Sx1 (fr_up (by simp))
  generalize am_upd Sx1 408 (moC (upd (upd I 40 (Int32.ofInt 0)) 41 (Int32.ofInt 0)) st li) = Sx2 at h_Sx2 hf_Sx2 ⊢
  clear h_Sx1 hf_Sx1
  have hg_J : gf [40, 41] I (upd (upd I 40 (Int32.ofInt 0)) 41 (Int32.ofInt 0)) := gf_up (gf_up (gf_refl _ _) (by simp)) (by simp)
  have J_40 : (upd (upd I 40 (Int32.ofInt 0)) 41 (Int32.ofInt 0)) 40 = nI 0 := (pk_un (by decide)).trans pk_us
  have J_41 : (upd (upd I 40 (Int32.ofInt 0)) 41 (Int32.ofInt 0)) 41 = nI 0 := pk_us
  have a_J := h_Sx2
  have hf_J := hf_Sx2
  clear h_Sx2 hf_Sx2
  generalize upd (upd I 40 (Int32.ofInt 0)) 41 (Int32.ofInt 0) = J at a_J hg_J J_40 J_41
  have h1 : cmS Sx2 J st li cs P [] := ⟨a_J, (hg_J 38 (by decide)).trans h38, h40, ⟨ty, by rw [fr_get hf_J (by decide)]; exact ht, hty⟩, hcs, by rw [fr_get hf_J (by decide)]; exact p1, by rw [fr_get hf_J (by decide)]; exact p2, by rw [fr_get hf_J (by decide)]; exact p3, trivial, J_41⟩
  have hf1 : fr [408, 429, 430, 431] S Sx2 := fr_mono hf_J (fun j hj => by simp only [List.mem_cons, List.not_mem_nil, or_false] at hj ⊢; omega)
  have hbad1 : ∀ k T2 J2, fres cs = .inl k → k ≤ cs.length → fr [408, 429, 430, 431] Sx2 T2 → gf [40, 41] J J2 → cmW T2 J2 st li cs → Q (.inl (some (.int (nI k))), T2) := fun k T2 J2 a1 a2 a3 a4 a5 => hbad k T2 J2 a1 a2 (fr_trans hf1 a3) (gf_trans hg_J a4) a5
  have hgood1 : ∀ nm cm T2 J2 P', fres cs = .inr (nm, cm) → fr [408, 429, 430, 431] Sx2 T2 → gf [40, 41] J J2 → cmS T2 J2 st li cs P' cm.reverse → J2 40 = nI nm → Q (.inl (some (.int (-1))), T2) := fun nm cm T2 J2 P' a1 a2 a3 a4 a5 => hgood nm cm T2 J2 P' a1 (fr_trans hf1 a2) (gf_trans hg_J a3) a4 a5
  have hfr : fres cs = frF cs 0 (0, 0, [], 0, 0, 0, false) := rfl
  have hl9 : ltr cs 0 < 127 := ltr_lt hcs
  have hl8 : ltr cs 1 < 127 := ltr_lt hcs
  show wp X (d + 3) 148 12 [some (.ref 408), some (.int (nI 0)), none] [] Sx2 Q
  iterate 2 refine wp_step rfl rfl ?_
  refine wp_c0 rfl rfl (by decide) rfl (recv_ok a_J rfl) rfl (q_clt (k := 0) h1 (by decide) ?_)
  refine wp_step rfl rfl ?_
  refine wp_icmp rfl (fun c0 => ?_) (fun c0 => ?_)
  · replace c0 := n_lt_t (a := ltr cs 0) (b := 65) (by omega) (by omega) c0
    exact fl_55 hfr h1 rfl (Or.inl rfl) (fun c hc => by rw [fs_0, if_neg (by have hce : ltr cs 0 = c := (by unfold ltr; rw [hc]); omega)]) (by omega) J_40 hbad1 hgood1
  · replace c0 := n_lt_f (a := ltr cs 0) (b := 65) (by omega) (by omega) c0
    iterate 2 refine wp_step rfl rfl ?_
    refine wp_c0 rfl rfl (by decide) rfl (recv_ok a_J rfl) rfl (q_clt (k := 0) h1 (by decide) ?_)
    refine wp_step rfl rfl ?_
    refine wp_icmp rfl (fun c1 => ?_) (fun c1 => ?_)
    · replace c1 := n_gt_t (a := ltr cs 0) (b := 90) (by omega) (by omega) c1
      exact fl_55 hfr h1 rfl (Or.inl rfl) (fun c hc => by rw [fs_0, if_neg (by have hce : ltr cs 0 = c := (by unfold ltr; rw [hc]); omega)]) (by omega) J_40 hbad1 hgood1
    · replace c1 := n_gt_f (a := ltr cs 0) (b := 90) (by omega) (by omega) c1
      obtain ⟨hk0, hat0⟩ := ltr_ne (show ltr cs 0 ≠ 0 by omega)
      have hR1 : frF cs 0 (0, 0, [], 0, 0, 0, false) = frF cs 1 (1, ltr cs 0, [], 0, 0, 0, false) := by
        have e9 : fst1 (0, 0, [], 0, 0, 0, false) (ltr cs 0) = (1, ltr cs 0, [], 0, 0, 0, false) := by
          rw [fs_0, if_pos ⟨by omega, by omega⟩]
        rw [frF_go hat0 (by rw [e9]; show (1 : Nat) ≠ 9; decide), e9]
      iterate 2 refine wp_step rfl rfl ?_
      refine wp_c0 rfl rfl (by decide) rfl (recv_ok a_J rfl) rfl (q_clt (k := 1) h1 (by decide) ?_)
      refine wp_step rfl rfl ?_
      refine wp_icmp rfl (fun c2 => ?_) (fun c2 => ?_)
      · replace c2 := n_eq_t (a := ltr cs 1) (b := 58) (by omega) (by omega) c2
        obtain ⟨hk1, hat1⟩ := ltr_ne (show ltr cs 1 ≠ 0 by omega)
        rw [c2] at hat1
        have hR2 : frF cs 2 (2, ltr cs 0, [], 0, 0, 0, false) = fres cs := by
          rw [hfr, hR1, frF_go (s := (1, ltr cs 0, [], 0, 0, 0, false)) hat1 (show (2 : Nat) ≠ 9 by decide)]
          rfl
        iterate 3 refine wp_step rfl rfl ?_
        refine wp_c0 rfl rfl (by decide) rfl (recv_ok a_J rfl) rfl (q_clt (k := 0) h1 (by decide) ?_)
        refine wp_putg rfl a_J (by decide) rfl rfl ?_
        rw [mkG_i rfl]
        have h_Sx3 : am_get (am_upd Sx2 408 (moC (upd J 40 (nI (ltr cs 0))) st li)) 408 = some (moC (upd J 40 (nI (ltr cs 0))) st li) := am_get_self a_J
        have hf_Sx3 : fr [408] Sx2 (am_upd Sx2 408 (moC (upd J 40 (nI (ltr cs 0))) st li)) := fr_up (by simp)
        generalize am_upd Sx2 408 (moC (upd J 40 (nI (ltr cs 0))) st li) = Sx3 at h_Sx3 hf_Sx3 ⊢
        iterate 2 refine wp_step rfl rfl ?_
        have hg_J2 : gf [40] J (upd J 40 (nI (ltr cs 0))) := gf_up (gf_refl _ _) (by simp)
        have J2_40 : (upd J 40 (nI (ltr cs 0))) 40 = nI (ltr cs 0) := pk_us
        have a_J2 := h_Sx3
        have hf_J2 := hf_Sx3
        clear h_Sx3 hf_Sx3
        generalize upd J 40 (nI (ltr cs 0)) = J2 at a_J2 hg_J2 J2_40
        have h2 : cmS Sx3 J2 st li cs P [] := ⟨a_J2, (hg_J2 38 (by decide)).trans h1.2.1, h40, ⟨ty, by rw [fr_get hf_J2 (by decide), fr_get hf_J (by decide)]; exact ht, hty⟩, hcs, by rw [fr_get hf_J2 (by decide), fr_get hf_J (by decide)]; exact p1, by rw [fr_get hf_J2 (by decide), fr_get hf_J (by decide)]; exact p2, by rw [fr_get hf_J2 (by decide), fr_get hf_J (by decide)]; exact p3, trivial, (hg_J2 41 (by decide)).trans J_41⟩
        show wp X (d + 3) 148 55 [some (.ref 408), some (.int (nI 2)), none] [] Sx3 Q
        exact fl_55 rfl h2 hR2 (Or.inr rfl) (fun c hc => fs_2 _ _) (by omega) J2_40 (fun k T3 J3 a1 a2 a3 a4 a5 => hbad1 k T3 J3 a1 a2 (fr_trans (fr_mono hf_J2 (fun j hj => by simp only [List.mem_cons, List.not_mem_nil, or_false] at hj ⊢; omega)) a3) (gf_trans (gf_mono hg_J2 (fun j hj => by simp only [List.mem_cons, List.not_mem_nil, or_false] at hj ⊢; omega)) a4) a5) (fun nm cm T3 J3 P' a1 a2 a3 a4 a5 => hgood1 nm cm T3 J3 P' a1 (fr_trans (fr_mono hf_J2 (fun j hj => by simp only [List.mem_cons, List.not_mem_nil, or_false] at hj ⊢; omega)) a2) (gf_trans (gf_mono hg_J2 (fun j hj => by simp only [List.mem_cons, List.not_mem_nil, or_false] at hj ⊢; omega)) a3) a4 a5)
      · replace c2 := n_eq_f (a := ltr cs 1) (b := 58) (by omega) (by omega) c2
        refine wp_step rfl rfl ?_
        refine wp_iret rfl rfl rfl (hbad1 1 Sx2 J ?_ (by omega) (fr_refl _ _) (gf_refl _ _) (cmS_W h1))
        rw [hfr, hR1]
        by_cases h2 : 1 < cs.length
        · exact frF_bad (ltr_at h2) (by rw [fs_1, if_neg c2])
        · rw [frF_end (by omega), if_neg (by dsimp only; omega)]
          congr 1
          omega
end MFILTER
