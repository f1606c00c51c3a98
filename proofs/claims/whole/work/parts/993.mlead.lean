/-! THE MODEL: lead -/
/-- what an event's value is -/
def evR (b : Nat → Nat) (tot : Nat) (re : jRe) : Prop := ∀ (k : Nat) (y : jEv) (ck : jCk), re.2.1[k]? = some y → re.2.2[y.1]? = some ck → rdb ck.2.2.1 b tot (y.2.2.2.1, 0, y.2.2.2.2.1)
theorem kdOf_pos {τ : jTT} {b : Nat → Nat} {tot : Nat} {w : jV} (hw : wfT τ) (h : vgd τ b tot w) : kdOf b w ≠ 0 ∧ kdOf b w < 14 := by
  obtain ⟨_, _, _, _, h5⟩ := h
  obtain ⟨ty, fl, p⟩ := w
  have h2 : 2 ≤ ty := by
    rcases h5 with g | ⟨_, t, x, g, _⟩
    · rcases g with g | g
      · exact g.1
      · dsimp only at g; omega
    · have := tix_ten hw g
      dsimp only at this
      omega
  unfold kdOf
  dsimp only
  split
  · omega
  · split
    · omega
    · split
      · split
        · omega
        · split <;> omega
      · split <;> omega
section MLEAD
variable {X : Nat × (Nat → Int32)} {d : Nat} {Q : am_R → Prop} {b : Nat → Nat} {v tot ci : Nat} {re : jRe} {M : jMT} {E : jME} {C : jMC} {ck : jCk}
theorem ld_99 {S : am_S} {I : Nat → Int32} {st li : Int64} {n k : Nat} {e path m : Int32} {x5 : Option Value} (h : am_get S 408 = some (moC I st li)) (h36 : I 36 = nI n) (hq : Q (.inl (some (.int (nI n))), S)) : wp X d 137 99 [some (.ref 408), some (.int (e)), some (.int path), some (.int (m)), some (.int (nI k)), x5] [] S Q := by
  refine wp_step rfl rfl ?_
  refine wp_getg (v := (.int (nI n))) rfl h (by decide) (congrArg Value.int h36) ?_
  refine wp_iret rfl rfl rfl hq
theorem ld_93 {S : am_S} {I : Nat → Int32} {st li : Int64} {n k : Nat} {e path : Int32} {z5 : Int32} (h : am_get S 408 = some (moC I st li)) (h36 : I 36 = nI n) (hk : k < 4) (hq : Q (.inl (some (.int (nI n))), S)) : wp X d 137 93 [some (.ref 408), some (.int (e)), some (.int path), some (.int (Int32.ofInt 0)), some (.int (nI k)), some (.int z5)] [] S Q := by
  refine wp_step rfl rfl ?_
  rw [show nI k + Int32.ofInt 1 = nI (k + 1) from nI_add k 1]
  refine wp_step rfl rfl ?_
  iterate 2 refine wp_step rfl rfl ?_
  refine wp_icmp rfl (fun c0 => ?_) (fun c0 => ?_)
  · replace c0 := n_ge_t (a := k + 1) (b := 4) (by omega) (by omega) c0
    exact ld_99 h h36 hq
  · replace c0 := n_ge_f (a := k + 1) (b := 4) (by omega) (by omega) c0
    refine wp_step rfl rfl ?_
    refine wp_if_t rfl rfl ?_
    exact ld_99 h h36 hq
theorem ld_42z {S : am_S} {I : Nat → Int32} {st li : Int64} {k : Nat} {e path : Int32} {x5 : Option Value} (h : am_get S 408 = some (moC I st li)) (h36 : I 36 = nI 0) (hk : k ≤ 4) (hq : Q (.inl (some (.int (nI 0))), S)) : wp X d 137 42 [some (.ref 408), some (.int (e)), some (.int path), some (.int (Int32.ofInt 1)), some (.int (nI k)), x5] [] S Q := by
  iterate 2 refine wp_step rfl rfl ?_
  refine wp_icmp rfl (fun c0 => ?_) (fun c0 => ?_)
  · replace c0 := n_ge_t (a := k) (b := 4) (by omega) (by omega) c0
    exact ld_99 h h36 hq
  · replace c0 := n_ge_f (a := k) (b := 4) (by omega) (by omega) c0
    refine wp_step rfl rfl ?_
    refine wp_if_f rfl rfl ?_
    iterate 6 refine wp_step rfl rfl ?_
    refine wp_step rfl rfl ?_
    rw [sar_st path c0]
    refine wp_step rfl rfl ?_
    show wp X d 137 65 [some (.ref 408), some (.int (e)), some (.int path), some (.int (Int32.ofInt 1)), some (.int (nI k)), some (.int (nI (stepAt path k)))] [] S Q
    have hs9 := stepAt_lt path k
    refine wp_step rfl rfl ?_
    refine wp_if rfl (fun c1 => ?_) (fun c1 => ?_)
    · replace c1 := z_eq_t (a := stepAt path k) (by omega) c1
      iterate 2 refine wp_step rfl rfl ?_
      refine wp_step rfl rfl ?_
      refine wp_if_t rfl rfl ?_
      exact ld_93 h h36 c0 hq
    · replace c1 := z_eq_f (a := stepAt path k) (by omega) c1
      refine wp_step rfl rfl ?_
      refine wp_getg (v := (.int (nI 0))) rfl h (by decide) (congrArg Value.int h36) ?_
      refine wp_if_t rfl rfl ?_
      iterate 2 refine wp_step rfl rfl ?_
      refine wp_step rfl rfl ?_
      refine wp_if_t rfl rfl ?_
      exact ld_93 h h36 c0 hq
set_option maxHeartbeats 1000000 in
theorem ld_loop {e path : Int32} (hb : ∀ j, b j < 256) (hR : reQ b tot re) : ∀ (f k : Nat) (o : Option jV) (S : am_S) (I : Nat → Int32) (st li : Int64) (K : jMK) (x5 : Option Value), k + f = 4 → lkS S I st li b v tot re M E C K ci ck → spO ck.2.2.1 b tot I st o → (∀ T J st' li' K', fr [408, 425, 426, 427] S T → gf [21, 22, 24, 29, 33, 35, 36, 57] I J → lkS T J st' li' b v tot re M E C K' ci ck → spR ck.2.2.1 b tot J st' (ldp ck.2.2.1 b tot ck.2.2.2 path f k o) → Q (.inl (some (.int (nI (kdR b (ldp ck.2.2.1 b tot ck.2.2.2 path f k o))))), T)) → wp X (d + 12) 137 42 [some (.ref 408), some (.int (e)), some (.int path), some (.int (Int32.ofInt 1)), some (.int (nI k)), x5] [] S Q := by
  intro f
  induction f with
  | zero =>
    intro k o S I st li K x5 hkf h hs hq
    have h36 : I 36 = nI (kdR b (some o)) := by
      cases o with
      | none => exact hs
      | some w => exact hs.1
    have hce : k = 4 := by omega
    subst hce
    iterate 2 refine wp_step rfl rfl ?_
    refine wp_icmp rfl (fun c0 => ?_) (fun c0 => ?_)
    · replace c0 := n_ge_t (a := 4) (b := 4) (by omega) (by omega) c0
      have hq0 := hq S I st li K (fr_refl _ _) (gf_refl _ _) h
      rw [show ldp ck.2.2.1 b tot ck.2.2.2 path 0 4 o = some o from rfl] at hq0
      exact ld_99 h.1.1 h36 (hq0 hs)
    · replace c0 := n_ge_f (a := 4) (b := 4) (by omega) (by omega) c0
      omega
  | succ f ih =>
    intro k o S I st li K x5 hkf h hs hq
    obtain ⟨hci, hv, htot, hT, hmck, hC⟩ := lkS_sl h
    have h36 : I 36 = nI (kdR b (some o)) := by
      cases o with
      | none => exact hs
      | some w => exact hs.1
    have hkp : kdR b (some o) ≠ 0 ∧ kdR b (some o) < 14 := by
      cases o with
      | none => exact ⟨by show (1 : Nat) ≠ 0; decide, by show (1 : Nat) < 14; decide⟩
      | some w => exact kdOf_pos hmck.1 hs.2.2.2.2.2
    iterate 2 refine wp_step rfl rfl ?_
    refine wp_icmp rfl (fun c0 => ?_) (fun c0 => ?_)
    · replace c0 := n_ge_t (a := k) (b := 4) (by omega) (by omega) c0
      omega
    · replace c0 := n_ge_f (a := k) (b := 4) (by omega) (by omega) c0
      refine wp_step rfl rfl ?_
      refine wp_if_f rfl rfl ?_
      iterate 6 refine wp_step rfl rfl ?_
      refine wp_step rfl rfl ?_
      rw [sar_st path c0]
      refine wp_step rfl rfl ?_
      show wp X (d + 12) 137 65 [some (.ref 408), some (.int (e)), some (.int path), some (.int (Int32.ofInt 1)), some (.int (nI k)), some (.int (nI (stepAt path k)))] [] S Q
      have hs9 := stepAt_lt path k
      refine wp_step rfl rfl ?_
      refine wp_if rfl (fun c1 => ?_) (fun c1 => ?_)
      · replace c1 := z_eq_t (a := stepAt path k) (by omega) c1
        have e9 : ldp ck.2.2.1 b tot ck.2.2.2 path (f + 1) k o = some o := by unfold ldp; rw [if_pos c1]
        rw [e9] at hq
        iterate 2 refine wp_step rfl rfl ?_
        refine wp_step rfl rfl ?_
        refine wp_if_t rfl rfl ?_
        exact ld_93 h.1.1 h36 c0 (hq S I st li K (fr_refl _ _) (gf_refl _ _) h hs)
      · replace c1 := z_eq_f (a := stepAt path k) (by omega) c1
        refine wp_step rfl rfl ?_
        refine wp_getg (v := (.int (nI (kdR b (some o))))) rfl h.1.1 (by decide) (congrArg Value.int h36) ?_
        refine wp_if rfl (fun c2 => ?_) (fun c2 => ?_)
        · replace c2 := z_eq_t (a := kdR b (some o)) (by omega) c2
          omega
        · replace c2 := z_eq_f (a := kdR b (some o)) (by omega) c2
          iterate 3 refine wp_step rfl rfl ?_
          refine wp_step rfl rfl ?_
          refine wp_if_f rfl rfl ?_
          iterate 2 refine wp_step rfl rfl ?_
          refine wp_c0 rfl rfl (by decide) rfl (recv_ok h.1.1 rfl) rfl (q_mstep hb hR h hs (by omega) (fun T J st2 li2 K2 hf2 hg2 hl2 hs2 => ?_))
          refine wp_step rfl rfl ?_
          rw [show nI k + Int32.ofInt 1 = nI (k + 1) from nI_add k 1]
          refine wp_step rfl rfl ?_
          cases er : stR ck.2.2.1 b tot ck.2.2.2 (stepAt path k) o with
          | none =>
            rw [er] at hs2
            have e9 : ldp ck.2.2.1 b tot ck.2.2.2 path (f + 1) k o = none := by
              unfold ldp
              rw [if_neg c1]
              cases o with
              | none => rfl
              | some w =>
                dsimp only
                unfold stR at er
                dsimp only at er
                cases es : stp ck.2.2.1 b tot w (stepAt path k) with
                | none => rfl
                | some w2 => rw [es] at er; cases er
            rw [e9] at hq
            exact ld_42z hl2.1.1 hs2 (by omega) (hq T J st2 li2 K2 hf2 hg2 hl2 hs2)
          | some o2 =>
            rw [er] at hs2
            have e9 : ldp ck.2.2.1 b tot ck.2.2.2 path (f + 1) k o = ldp ck.2.2.1 b tot ck.2.2.2 path f (k + 1) o2 := by
              conv => lhs; unfold ldp
              rw [if_neg c1]
              cases o with
              | none => cases er
              | some w =>
                dsimp only
                unfold stR at er
                dsimp only at er
                cases es : stp ck.2.2.1 b tot w (stepAt path k) with
                | none => rw [es] at er; cases er
                | some w2 => rw [es] at er; cases er; rfl
            rw [e9] at hq
            exact ih (k + 1) o2 T J st2 li2 K2 _ (by omega) hl2 hs2 (fun T3 J3 st3 li3 K3 g1 g2 g3 g4 => hq T3 J3 st3 li3 K3 (fr_trans hf2 g1) (gf_trans hg2 g2) g3 g4)
set_option maxHeartbeats 1000000 in
theorem q_mlead {S : am_S} {I : Nat → Int32} {st li : Int64} {K : jMK} {k : Nat} {y : jEv} {path : Int32} (hb : ∀ j, b j < 256) (hR : reQ b tot re) (hP : evP b tot re) (hE : evR b tot re) (h : mRc S I st li b v tot re M E C K) (hy : re.2.1[k]? = some y) (hq : ∀ ck T J st' li' K', fr [408, 425, 426, 427] S T → gf [19, 20, 21, 22, 24, 29, 33, 35, 36, 57] I J → lkS T J st' li' b v tot re M E C K' y.1 ck → spR ck.2.2.1 b tot J st' (ldE b tot re y path) → Q (.inl (some (.int (nI (kdR b (ldE b tot re y path))))), T)) : ev X (d + 13) 137 [.ref 408, .int (nI k), .int path] S Q := by
  refine ev_wp (L0 := [some (.ref 408), some (.int (nI k)), some (.int path), none, none, none]) (Nat.le_of_ble_eq_true rfl) rfl ?_
  iterate 2 refine wp_step rfl rfl ?_
  refine wp_c0 rfl rfl (by decide) rfl (recv_ok h.1 rfl) rfl (q_mgo hb h hP hy (fun ck len p1 p2 T J hck hkd eh en hf1 hg1 h20 h57 h1 hc1 => ?_))
  have hl1 : lkS T J st (lN y.2.2.2.1) b v tot re M E C K y.1 ck := ⟨hc1, h1.2.2.1, h20, hck⟩
  have hho := hd_ok eh
  obtain ⟨hci, hv, htot, hT, hmck, hC⟩ := lkS_sl hl1
  have hid31 : y.2.2.2.1 < 2 ^ 31 := hho.2.2.2.2.2.1
  have hw1 : mWk T J st (lN y.2.2.2.1) b v p2 (y.2.1 + len) (4 * v + y.1) M K := ⟨h1, hc1.2.2.2.2.2.2.2.2.2.2.2.2.2.2.2.2, h20, hc1.2.2.2.2.2.2.2.1, hc1.2.2.2.2.2.2.2.2.1⟩
  iterate 2 refine wp_step rfl rfl ?_
  refine wp_getg (v := (.long (lN y.2.2.2.1))) rfl h1.1 (by decide) rfl ?_
  refine wp_putg rfl h1.1 (by decide) rfl rfl ?_
  rw [mkG_34]
  have h_Sx1 : am_get (am_upd T 408 (moC (J) (lN y.2.2.2.1) (lN y.2.2.2.1))) 408 = some (moC (J) (lN y.2.2.2.1) (lN y.2.2.2.1)) := am_get_self h1.1
  have hf_Sx1 : fr [408] T (am_upd T 408 (moC (J) (lN y.2.2.2.1) (lN y.2.2.2.1))) := fr_up (by simp)
  generalize am_upd T 408 (moC (J) (lN y.2.2.2.1) (lN y.2.2.2.1)) = Sx1 at h_Sx1 hf_Sx1 ⊢
  iterate 2 refine wp_step rfl rfl ?_
  refine wp_putg rfl h_Sx1 (by decide) rfl rfl ?_
  rw [mkG_i rfl]
  have h_Sx2 : am_get (am_upd Sx1 408 (moC (upd J 35 (Int32.ofInt 0)) (lN y.2.2.2.1) (lN y.2.2.2.1))) 408 = some (moC (upd J 35 (Int32.ofInt 0)) (lN y.2.2.2.1) (lN y.2.2.2.1)) := am_get_self h_Sx1
  have hf_Sx2 : fr [408] T (am_upd Sx1 408 (moC (upd J 35 (Int32.ofInt 0)) (lN y.2.2.2.1) (lN y.2.2.2.1))) := fr_trans hf_Sx1 (fr_up (by simp))
  generalize am_upd Sx1 408 (moC (upd J 35 (Int32.ofInt 0)) (lN y.2.2.2.1) (lN y.2.2.2.1)) = Sx2 at h_Sx2 hf_Sx2 ⊢
  clear h_Sx1 hf_Sx1
  refine wp_step rfl rfl ?_
  have hg_J2 : gf [35] J (upd J 35 (Int32.ofInt 0)) := gf_up (gf_refl _ _) (by simp)
  have J2_35 : (upd J 35 (Int32.ofInt 0)) 35 = nI 0 := pk_us
  have a_J2 := h_Sx2
  have hf_J2 := hf_Sx2
  clear h_Sx2 hf_Sx2
  generalize upd J 35 (Int32.ofInt 0) = J2 at a_J2 hg_J2 J2_35
  have hw2 : mWk Sx2 J2 (lN y.2.2.2.1) (lN y.2.2.2.1) b v p2 (y.2.1 + len) (4 * v + y.1) M K := mWk_up hw1 hf_J2 hg_J2 (by decide) (by decide) ⟨a_J2, mBy_fr h1.2.1 hf_J2 (by decide), (hg_J2 19 (by decide)).trans h1.2.2.1, (hg_J2 21 (by decide)).trans h1.2.2.2.1, (hg_J2 22 (by decide)).trans h1.2.2.2.2.1, (hg_J2 25 (by decide)).trans h1.2.2.2.2.2.1, h1.2.2.2.2.2.2⟩
  have hl2 := lkS_1 (st' := lN y.2.2.2.1) (li' := lN y.2.2.2.1) hl1 hf_J2 a_J2 hg_J2 (by decide) (by decide) (by decide) (by decide) (by decide)
  refine wp_c0 rfl rfl (by decide) rfl (recv_ok a_J2 rfl) rfl (q_wcomp hb hw2 en (fun T3 J3 hf3 hg3 h3 => ?_))
  have hl3 := lkS_of hl2 hf3 (fun j hj => by simp only [List.mem_cons, List.not_mem_nil, or_false] at hj; omega) hg3 h3 (by decide) (by decide) (by decide) (by decide) (by decide)
  iterate 3 refine wp_step rfl rfl ?_
  refine wp_getg (v := (.int (nI y.2.2.2.2.1))) rfl h3.1.1 (by decide) (congrArg Value.int h3.1.2.2.2.1) ?_
  refine wp_putg rfl h3.1.1 (by decide) rfl rfl ?_
  rw [mkG_i rfl]
  have h_Sx3 : am_get (am_upd T3 408 (moC (upd J3 33 (nI y.2.2.2.2.1)) (lN y.2.2.2.1) (lN y.2.2.2.1))) 408 = some (moC (upd J3 33 (nI y.2.2.2.2.1)) (lN y.2.2.2.1) (lN y.2.2.2.1)) := am_get_self h3.1.1
  have hf_Sx3 : fr [408] T3 (am_upd T3 408 (moC (upd J3 33 (nI y.2.2.2.2.1)) (lN y.2.2.2.1) (lN y.2.2.2.1))) := fr_up (by simp)
  generalize am_upd T3 408 (moC (upd J3 33 (nI y.2.2.2.2.1)) (lN y.2.2.2.1) (lN y.2.2.2.1)) = Sx3 at h_Sx3 hf_Sx3 ⊢
  iterate 2 refine wp_step rfl rfl ?_
  refine wp_putg rfl h_Sx3 (by decide) rfl rfl ?_
  rw [mkG_i rfl]
  have h_Sx4 : am_get (am_upd Sx3 408 (moC (upd (upd J3 33 (nI y.2.2.2.2.1)) 36 ((Int8.ofInt 11).toInt32)) (lN y.2.2.2.1) (lN y.2.2.2.1))) 408 = some (moC (upd (upd J3 33 (nI y.2.2.2.2.1)) 36 ((Int8.ofInt 11).toInt32)) (lN y.2.2.2.1) (lN y.2.2.2.1)) := am_get_self h_Sx3
  have hf_Sx4 : fr [408] T3 (am_upd Sx3 408 (moC (upd (upd J3 33 (nI y.2.2.2.2.1)) 36 ((Int8.ofInt 11).toInt32)) (lN y.2.2.2.1) (lN y.2.2.2.1))) := fr_trans hf_Sx3 (fr_up (by simp))
  generalize am_upd Sx3 408 (moC (upd (upd J3 33 (nI y.2.2.2.2.1)) 36 ((Int8.ofInt 11).toInt32)) (lN y.2.2.2.1) (lN y.2.2.2.1)) = Sx4 at h_Sx4 hf_Sx4 ⊢
  clear h_Sx3 hf_Sx3
  iterate 4 refine wp_step rfl rfl ?_
  have hg_J4 : gf [33, 36] J3 (upd (upd J3 33 (nI y.2.2.2.2.1)) 36 ((Int8.ofInt 11).toInt32)) := gf_up (gf_up (gf_refl _ _) (by simp)) (by simp)
  have J4_33 : (upd (upd J3 33 (nI y.2.2.2.2.1)) 36 ((Int8.ofInt 11).toInt32)) 33 = nI y.2.2.2.2.1 := (pk_un (by decide)).trans pk_us
  have J4_36 : (upd (upd J3 33 (nI y.2.2.2.2.1)) 36 ((Int8.ofInt 11).toInt32)) 36 = nI 11 := pk_us
  have a_J4 := h_Sx4
  have hf_J4 := hf_Sx4
  clear h_Sx4 hf_Sx4
  generalize upd (upd J3 33 (nI y.2.2.2.2.1)) 36 ((Int8.ofInt 11).toInt32) = J4 at a_J4 hg_J4 J4_33 J4_36
  have hl4 := lkS_1 (st' := lN y.2.2.2.1) (li' := lN y.2.2.2.1) hl3 hf_J4 a_J4 hg_J4 (by decide) (by decide) (by decide) (by decide) (by decide)
  show wp X (d + 12) 137 42 [some (.ref 408), some (.int (nI k)), some (.int path), some (.int (Int32.ofInt 1)), some (.int (nI 0)), none] [] Sx4 Q
  have hf04 : fr [408, 425, 426, 427] S Sx4 := fr_trans (fr_mono hf1 (fun j hj => by simp only [List.mem_cons, List.not_mem_nil, or_false] at hj ⊢; omega)) (fr_trans (fr_mono hf_J2 (fun j hj => by simp only [List.mem_cons, List.not_mem_nil, or_false] at hj ⊢; omega)) (fr_trans (fr_mono hf3 (fun j hj => by simp only [List.mem_cons, List.not_mem_nil, or_false] at hj ⊢; omega)) (fr_mono hf_J4 (fun j hj => by simp only [List.mem_cons, List.not_mem_nil, or_false] at hj ⊢; omega))))
  have hg04 : gf [19, 20, 21, 22, 24, 29, 33, 35, 36, 57] I J4 := gf_trans (gf_mono hg1 (fun j hj => by simp only [List.mem_cons, List.not_mem_nil, or_false] at hj ⊢; omega)) (gf_trans (gf_mono hg_J2 (fun j hj => by simp only [List.mem_cons, List.not_mem_nil, or_false] at hj ⊢; omega)) (gf_trans (gf_mono hg3 (fun j hj => by simp only [List.mem_cons, List.not_mem_nil, or_false] at hj ⊢; omega)) (gf_mono hg_J4 (fun j hj => by simp only [List.mem_cons, List.not_mem_nil, or_false] at hj ⊢; omega))))
  obtain ⟨t9, x9, ht9, _⟩ := hkd
  have h16 := tix_ten hmck.1 ht9
  have hkd11 : kdOf b (y.2.2.2.1, 0, y.2.2.2.2.1) = 11 := by
    unfold kdOf
    rw [if_neg (show ¬ 2 ≤ 0 by decide), if_neg (show ¬ (0 : Nat) = 1 by decide), if_neg (by dsimp only; omega), if_neg (by dsimp only; omega)]
  have hsp : spO ck.2.2.1 b tot J4 (lN y.2.2.2.1) (some (y.2.2.2.1, 0, y.2.2.2.2.1)) := ⟨by rw [hkd11]; exact J4_36, by rw [hkd11]; decide, J4_33, (hg_J4 35 (by decide)).trans ((hg3 35 (by decide)).trans J2_35), rfl, hE k y ck hy hck, by show 0 ≤ 3; decide, hid31, h3.1.2.2.2.2.2.2.2.1, Or.inr ⟨rfl, t9, x9, ht9, by assumption⟩⟩
  have hld : ldE b tot re y path = ldp ck.2.2.1 b tot ck.2.2.2 path 4 0 (some (y.2.2.2.1, 0, y.2.2.2.2.1)) := by
    unfold ldE
    rw [hck]
  rw [hld] at hq
  exact ld_loop hb hR 4 0 _ Sx4 J4 _ _ K none (by omega) hl4 hsp (fun T5 J5 st5 li5 K5 g1 g2 g3 g4 => hq ck T5 J5 st5 li5 K5 (fr_trans hf04 g1) (gf_trans hg04 (gf_mono g2 (fun j hj => by simp only [List.mem_cons, List.not_mem_nil, or_false] at hj ⊢; omega))) g3 g4)
end MLEAD
