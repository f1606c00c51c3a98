/-! THE MODEL: a type is told, in full -/
section MTELL3
variable {X : Nat × (Nat → Int32)} {d : Nat} {Q : am_R → Prop} {st li : Int64} {b : Nat → Nat} {w lim sl : Nat} {τ : jTT}
set_option maxHeartbeats 4000000 in
theorem q_mtypeTold {S : am_S} {I : Nat → Int32} {p : Nat} {M : jMT} (hb : ∀ j, b j < 256) (h : mR S I st li b w p lim) (hM : mTa S M) (hT : mTy M sl τ) (h20 : I 20 = nI sl) (hsl : sl < 8) (hl : τ.length < 10) (htb : ∀ (i : Nat) (x : jTy), τ[i]? = some x → x.1 < 2 ^ 31 ∧ x.2.2.1 < 2 ^ 31) (htf : ∀ (i : Nat) (x : jTy), τ[i]? = some x → x.2.2.2.length ≤ 8)
    (hret : ∀ x p' T J M', rdTT b lim τ p = .inr (x, p') → fr [408, 417, 418, 419, 420, 421, 422, 423, 424] S T → gf [21] I J → mR T J st li b w p' lim → mTa T M' → mTy M' sl (τ ++ [x]) → magS M M' sl → Q (.inl none, T))
    (hbad : ∀ k pl T J M', rdTT b lim τ p = .inl (k, pl) → fr [408, 417, 418, 419, 420, 421, 422, 423, 424] S T → gf [21, 25, 26] I J → mX T J st li k pl → mTa T M' → (∃ q, J 21 = nI q) → magS M M' sl → Q (.inl none, T)) : ev X (d + 5) 117 [.ref 408] S Q := by
  refine ev_wp (L0 := [some (.ref 408), none, none, none, none, none, none, none, none]) (Nat.le_of_ble_eq_true rfl) rfl ?_
  have hk9 := h.2.2.2.2.2.2
  refine wp_step rfl rfl ?_
  refine wp_step rfl rfl ?_
  refine wp_getg (v := (.int (nI sl))) rfl h.1 (by decide) (congrArg Value.int h20) ?_
  refine wp_step rfl rfl ?_
  rw [show (Int8.ofInt 10).toInt32 * nI sl = nI (10 * sl) from pk_mul 10 sl]
  refine wp_step rfl rfl ?_
  refine wp_getg rfl h.1 (by decide) rfl ?_
  refine wp_step rfl rfl ?_
  refine wp_getg (v := (.int (nI sl))) rfl h.1 (by decide) (congrArg Value.int h20) ?_
  refine wp_ald rfl (Or.inl ⟨rfl, rfl⟩) (by decide) hM.1 (am_in_nI (by omega) (by decide)) ?_
  rw [nI_clamp (by omega)]
  rw [hT.1]
  refine wp_step rfl rfl ?_
  rw [nI_add]
  refine wp_step rfl rfl ?_
  show wp X (d + 4) 117 18 [some (.ref 408), some (.int (nI (10 * sl + τ.length))), none, none, none, none, none, none, none] [] S Q
  refine wp_step rfl rfl ?_
  refine wp_getg (v := (.int (nI p))) rfl h.1 (by decide) (congrArg Value.int h.2.2.2.1) ?_
  iterate 2 refine wp_step rfl rfl ?_
  refine wp_c0 rfl rfl (by decide) rfl (recv_ok h.1 rfl) rfl (q_msmall hb h (fun id p1 T J e1 hf1 hg1 h1 => ?_) (fun T J e1 hf1 hg1 h1 hq1 => ?_))
  · have hcl := cnt_lt e1
    have hM1 := mTa_fr hM hf1 (fun j hj => by simp only [List.mem_cons, List.not_mem_nil, or_false] at hj; omega)
    have h201 : J 20 = nI sl := (hg1 20 (by decide)).trans h20
    refine wp_step rfl rfl ?_
    rw [nI_l hcl.1]
    refine wp_step rfl rfl ?_
    show wp X (d + 4) 117 29 [some (.ref 408), some (.int (nI (10 * sl + τ.length))), some (.int (nI p)), some (.long (lN id)), none, none, none, none, none] [] T Q
    have bad1 : (id < 16 ∨ tix τ id ≠ none) → wp X (d + 4) 117 53 [some (.ref 408), some (.int (nI (10 * sl + τ.length))), some (.int (nI p)), some (.long (lN id)), none, none, none, none, none] [] T Q := by
      intro hbd
      iterate 3 refine wp_step rfl rfl ?_
      refine wp_c0 rfl rfl (by decide) rfl (recv_ok h1.1 rfl) rfl (q_mwrong h1.1 h1.2.2.2.2.2.1 (fun T8 hf8 h8 => ?_))
      have hx8 : mX T8 (upd (upd J 26 (nI p)) 25 (Int32.ofInt 4)) st li 4 p := ⟨h8, pk_us, by decide, (pk_un (by decide)).trans pk_us⟩
      have hg8 : gf [21, 25, 26] I (upd (upd J 26 (nI p)) 25 (Int32.ofInt 4)) := gf_up (gf_up (gf_mono hg1 (fun j hj => by simp only [List.mem_cons, List.not_mem_nil, or_false] at hj ⊢; omega)) (by simp)) (by simp)
      have hq8 : ∃ q, (upd (upd J 26 (nI p)) 25 (Int32.ofInt 4)) 21 = nI q := ⟨p1, (pk_un (by decide)).trans ((pk_un (by decide)).trans h1.2.2.2.1)⟩
      exact tt_59 (d := d + 1) hx8 (mTa_fr hM1 hf8 (fun j hj => by simp only [List.mem_cons, List.not_mem_nil, or_false] at hj; omega)) (by omega) hq8 ⟨lim, (hg8 22 (by decide)).trans h.2.2.2.2.1⟩ (fun T9 hf9 hM9 hx9 => hbad 4 p T9 _ _ (by unfold rdTT; rw [e1]; dsimp only; rw [if_pos hbd]) (fr_trans (fr_mono (fr_trans hf1 hf8) (fun j hj => by simp only [List.mem_cons, List.not_mem_nil, or_false] at hj ⊢; omega)) (fr_mono hf9 (fun j hj => by simp only [List.mem_cons, List.not_mem_nil, or_false] at hj ⊢; omega))) hg8 hx9 hM9 hq8 (magS_of (s := (10 * sl + τ.length)) ⟨rfl, fun j hj => ⟨rfl, rfl, rfl, pk_un hj⟩, fun _ _ => ⟨rfl, rfl, rfl⟩⟩ (by omega) (by omega)))
    refine wp_step rfl rfl ?_
    refine wp_getg (v := (.int 0)) rfl h1.1 (by decide) (congrArg Value.int h1.2.2.2.2.2.1) ?_
    refine wp_if_f rfl rfl ?_
    iterate 3 refine wp_step rfl rfl ?_
    refine wp_if rfl (fun c0 => ?_) (fun c0 => ?_)
    · replace c0 := l_lt_t c0
      exact bad1 (Or.inl ((lN_lt hcl.1 (by decide)).mp c0))
    · replace c0 := l_lt_f c0
      replace c0 : ¬ id < 16 := fun h9 => c0 ((lN_lt hcl.1 (by decide)).mpr h9)
      iterate 3 refine wp_step rfl rfl ?_
      refine wp_c0 rfl rfl (by decide) rfl (recv_ok h1.1 rfl) rfl (q_mtypeOf (kd := none) h1.1 h201 hM1 hT hsl (by omega) hcl.1 (fun k hk => by cases hk) htb ?_)
      cases et : tix τ id with
      | some t0 =>
        have hti := (tix_some et)
        obtain ⟨_, _, _, htl⟩ := hti
        rw [show tof τ id none = some t0 from et]
        unfold mO
        dsimp only
        refine wp_if rfl (fun c1 => ?_) (fun c1 => ?_)
        · replace c1 := z_lt_t (a := 10 * sl + t0) (by omega) c1
          exact c1.elim
        · replace c1 := z_lt_f (a := 10 * sl + t0) (by omega) c1
          exact bad1 (Or.inr (by rw [et]; simp))
      | none =>
        rw [show tof τ id none = none from et]
        refine wp_if_t rfl rfl ?_
        have hok : ¬ (id < 16 ∨ tix τ id ≠ none) := by rw [et]; simp; omega
        clear bad1
        refine wp_step rfl rfl ?_
        refine wp_getg (v := (.int (nI p1))) rfl h1.1 (by decide) (congrArg Value.int h1.2.2.2.1) ?_
        iterate 2 refine wp_step rfl rfl ?_
        refine wp_c0 rfl rfl (by decide) rfl (recv_ok h1.1 rfl) rfl (q_mnext hb h1 (fun T2 J2 hlt2 hf2 hg2 h2 => ?_) (fun T2 J2 hle2 hf2 hg2 h2 hq2 => ?_))
        · have hg12 := gf_trans hg1 hg2
          have hf12 := fr_trans hf1 hf2
          have hM2 := mTa_fr hM1 hf2 (fun j hj => by simp only [List.mem_cons, List.not_mem_nil, or_false] at hj; omega)
          have hb1 := hb p1
          have hn1 : ¬ lim ≤ p1 := by omega
          refine wp_step rfl rfl ?_
          show wp X (d + 4) 117 70 [some (.ref 408), some (.int (nI (10 * sl + τ.length))), some (.int (nI p1)), some (.long (lN id)), none, some (.int (nI (b p1))), none, none, none] [] T2 Q
          have bad2 : (b p1 < 65 ∨ 90 < b p1) → wp X (d + 4) 117 91 [some (.ref 408), some (.int (nI (10 * sl + τ.length))), some (.int (nI p1)), some (.long (lN id)), none, some (.int (nI (b p1))), none, none, none] [] T2 Q := by
            intro hbd
            iterate 3 refine wp_step rfl rfl ?_
            refine wp_c0 rfl rfl (by decide) rfl (recv_ok h2.1 rfl) rfl (q_mwrong h2.1 h2.2.2.2.2.2.1 (fun T8 hf8 h8 => ?_))
            have hx8 : mX T8 (upd (upd J2 26 (nI p1)) 25 (Int32.ofInt 4)) st li 4 p1 := ⟨h8, pk_us, by decide, (pk_un (by decide)).trans pk_us⟩
            have hg8 : gf [21, 25, 26] I (upd (upd J2 26 (nI p1)) 25 (Int32.ofInt 4)) := gf_up (gf_up (gf_mono hg12 (fun j hj => by simp only [List.mem_cons, List.not_mem_nil, or_false] at hj ⊢; omega)) (by simp)) (by simp)
            have hq8 : ∃ q, (upd (upd J2 26 (nI p1)) 25 (Int32.ofInt 4)) 21 = nI q := ⟨(p1 + 1), (pk_un (by decide)).trans ((pk_un (by decide)).trans h2.2.2.2.1)⟩
            exact tt_97 (d := d + 1) hx8 (mTa_fr hM2 hf8 (fun j hj => by simp only [List.mem_cons, List.not_mem_nil, or_false] at hj; omega)) (by omega) hq8 ⟨lim, (hg8 22 (by decide)).trans h.2.2.2.2.1⟩ (fun T9 hf9 hM9 hx9 => hbad 4 p1 T9 _ _ (by unfold rdTT; rw [e1]; dsimp only; rw [if_neg hok]; unfold rdT1; rw [if_neg hn1, if_pos hbd]) (fr_trans (fr_mono (fr_trans hf12 hf8) (fun j hj => by simp only [List.mem_cons, List.not_mem_nil, or_false] at hj ⊢; omega)) (fr_mono hf9 (fun j hj => by simp only [List.mem_cons, List.not_mem_nil, or_false] at hj ⊢; omega))) hg8 hx9 hM9 hq8 (magS_of (s := (10 * sl + τ.length)) ⟨rfl, fun j hj => ⟨rfl, rfl, rfl, pk_un hj⟩, fun _ _ => ⟨rfl, rfl, rfl⟩⟩ (by omega) (by omega)))
          refine wp_step rfl rfl ?_
          refine wp_getg (v := (.int 0)) rfl h2.1 (by decide) (congrArg Value.int h2.2.2.2.2.2.1) ?_
          refine wp_if_f rfl rfl ?_
          iterate 2 refine wp_step rfl rfl ?_
          refine wp_icmp rfl (fun c2 => ?_) (fun c2 => ?_)
          · replace c2 := n_lt_t (a := b p1) (b := 65) (by omega) (by omega) c2
            exact bad2 (Or.inl c2)
          · replace c2 := n_lt_f (a := b p1) (b := 65) (by omega) (by omega) c2
            iterate 2 refine wp_step rfl rfl ?_
            refine wp_icmp rfl (fun c3 => ?_) (fun c3 => ?_)
            · replace c3 := n_le_t (a := b p1) (b := 90) (by omega) (by omega) c3
              have hok2 : ¬ (b p1 < 65 ∨ 90 < b p1) := by omega
              clear bad2
              refine wp_step rfl rfl ?_
              refine wp_getg (v := (.int (nI (p1 + 1)))) rfl h2.1 (by decide) (congrArg Value.int h2.2.2.2.1) ?_
              iterate 2 refine wp_step rfl rfl ?_
              refine wp_c0 rfl rfl (by decide) rfl (recv_ok h2.1 rfl) rfl (q_mnext hb h2 (fun T3 J3 hlt3 hf3 hg3 h3 => ?_) (fun T3 J3 hle3 hf3 hg3 h3 hq3 => ?_))
              · have hg13 := gf_trans hg12 hg3
                have hf13 := fr_trans hf12 hf3
                have hM3 := mTa_fr hM2 hf3 (fun j hj => by simp only [List.mem_cons, List.not_mem_nil, or_false] at hj; omega)
                have hb2 := hb (p1 + 1)
                have hn2 : ¬ lim ≤ p1 + 1 := by omega
                refine wp_step rfl rfl ?_
                show wp X (d + 4) 117 108 [some (.ref 408), some (.int (nI (10 * sl + τ.length))), some (.int (nI (p1 + 1))), some (.long (lN id)), none, some (.int (nI (b p1))), some (.int (nI (b (p1 + 1)))), none, none] [] T3 Q
                have bad3 : (1 < b (p1 + 1)) → wp X (d + 4) 117 121 [some (.ref 408), some (.int (nI (10 * sl + τ.length))), some (.int (nI (p1 + 1))), some (.long (lN id)), none, some (.int (nI (b p1))), some (.int (nI (b (p1 + 1)))), none, none] [] T3 Q := by
                  intro hbd
                  iterate 3 refine wp_step rfl rfl ?_
                  refine wp_c0 rfl rfl (by decide) rfl (recv_ok h3.1 rfl) rfl (q_mwrong h3.1 h3.2.2.2.2.2.1 (fun T8 hf8 h8 => ?_))
                  have hx8 : mX T8 (upd (upd J3 26 (nI (p1 + 1))) 25 (Int32.ofInt 4)) st li 4 (p1 + 1) := ⟨h8, pk_us, by decide, (pk_un (by decide)).trans pk_us⟩
                  have hg8 : gf [21, 25, 26] I (upd (upd J3 26 (nI (p1 + 1))) 25 (Int32.ofInt 4)) := gf_up (gf_up (gf_mono hg13 (fun j hj => by simp only [List.mem_cons, List.not_mem_nil, or_false] at hj ⊢; omega)) (by simp)) (by simp)
                  have hq8 : ∃ q, (upd (upd J3 26 (nI (p1 + 1))) 25 (Int32.ofInt 4)) 21 = nI q := ⟨(p1 + 1 + 1), (pk_un (by decide)).trans ((pk_un (by decide)).trans h3.2.2.2.1)⟩
                  exact tt_127 (d := d + 1) hx8 (mTa_fr hM3 hf8 (fun j hj => by simp only [List.mem_cons, List.not_mem_nil, or_false] at hj; omega)) (by omega) hq8 ⟨lim, (hg8 22 (by decide)).trans h.2.2.2.2.1⟩ (fun T9 hf9 hM9 hx9 => hbad 4 (p1 + 1) T9 _ _ (by unfold rdTT; rw [e1]; dsimp only; rw [if_neg hok]; unfold rdT1; rw [if_neg hn1, if_neg hok2, if_neg hn2, if_pos hbd]) (fr_trans (fr_mono (fr_trans hf13 hf8) (fun j hj => by simp only [List.mem_cons, List.not_mem_nil, or_false] at hj ⊢; omega)) (fr_mono hf9 (fun j hj => by simp only [List.mem_cons, List.not_mem_nil, or_false] at hj ⊢; omega))) hg8 hx9 hM9 hq8 (magS_of (s := (10 * sl + τ.length)) ⟨rfl, fun j hj => ⟨rfl, rfl, rfl, pk_un hj⟩, fun _ _ => ⟨rfl, rfl, rfl⟩⟩ (by omega) (by omega)))
                refine wp_step rfl rfl ?_
                refine wp_getg (v := (.int 0)) rfl h3.1 (by decide) (congrArg Value.int h3.2.2.2.2.2.1) ?_
                refine wp_if_f rfl rfl ?_
                iterate 2 refine wp_step rfl rfl ?_
                refine wp_icmp rfl (fun c4 => ?_) (fun c4 => ?_)
                · replace c4 := n_le_t (a := b (p1 + 1)) (b := 1) (by omega) (by omega) c4
                  clear bad3
                  refine wp_step rfl rfl ?_
                  refine wp_getg (v := (.int (nI (p1 + 1 + 1)))) rfl h3.1 (by decide) (congrArg Value.int h3.2.2.2.1) ?_
                  iterate 2 refine wp_step rfl rfl ?_
                  refine wp_c0 rfl rfl (by decide) rfl (recv_ok h3.1 rfl) rfl (q_msmall hb h3 (fun n p2 T4 J4 e4 hf4 hg4 h4 => ?_) (fun T4 J4 e4 hf4 hg4 h4 hq4 => ?_))
                  · have hcl4 := cnt_lt e4
                    have hg14 := gf_trans hg13 hg4
                    have hf14 := fr_trans hf13 hf4
                    have hM4 := mTa_fr hM3 hf4 (fun j hj => by simp only [List.mem_cons, List.not_mem_nil, or_false] at hj; omega)
                    refine wp_step rfl rfl ?_
                    show wp X (d + 4) 117 138 [some (.ref 408), some (.int (nI (10 * sl + τ.length))), some (.int (nI (p1 + 1 + 1))), some (.long (lN id)), none, some (.int (nI (b p1))), some (.int (nI (b (p1 + 1)))), some (.int (nI n)), none] [] T4 Q
                    have bad4 : (8 < n) → wp X (d + 4) 117 152 [some (.ref 408), some (.int (nI (10 * sl + τ.length))), some (.int (nI (p1 + 1 + 1))), some (.long (lN id)), none, some (.int (nI (b p1))), some (.int (nI (b (p1 + 1)))), some (.int (nI n)), none] [] T4 Q := by
                      intro hbd
                      iterate 3 refine wp_step rfl rfl ?_
                      refine wp_c0 rfl rfl (by decide) rfl (recv_ok h4.1 rfl) rfl (q_mwrong h4.1 h4.2.2.2.2.2.1 (fun T8 hf8 h8 => ?_))
                      have hx8 : mX T8 (upd (upd J4 26 (nI (p1 + 1 + 1))) 25 (Int32.ofInt 4)) st li 4 (p1 + 1 + 1) := ⟨h8, pk_us, by decide, (pk_un (by decide)).trans pk_us⟩
                      have hg8 : gf [21, 25, 26] I (upd (upd J4 26 (nI (p1 + 1 + 1))) 25 (Int32.ofInt 4)) := gf_up (gf_up (gf_mono hg14 (fun j hj => by simp only [List.mem_cons, List.not_mem_nil, or_false] at hj ⊢; omega)) (by simp)) (by simp)
                      have hq8 : ∃ q, (upd (upd J4 26 (nI (p1 + 1 + 1))) 25 (Int32.ofInt 4)) 21 = nI q := ⟨p2, (pk_un (by decide)).trans ((pk_un (by decide)).trans h4.2.2.2.1)⟩
                      exact tt_158 (d := d + 1) hx8 (mTa_fr hM4 hf8 (fun j hj => by simp only [List.mem_cons, List.not_mem_nil, or_false] at hj; omega)) (by omega) hq8 ⟨lim, (hg8 22 (by decide)).trans h.2.2.2.2.1⟩ (fun T9 hf9 hM9 hx9 => hbad 4 (p1 + 1 + 1) T9 _ _ (by unfold rdTT; rw [e1]; dsimp only; rw [if_neg hok]; unfold rdT1; rw [if_neg hn1, if_neg hok2, if_neg hn2, if_neg (by omega), e4]; dsimp only; rw [if_pos hbd]) (fr_trans (fr_mono (fr_trans hf14 hf8) (fun j hj => by simp only [List.mem_cons, List.not_mem_nil, or_false] at hj ⊢; omega)) (fr_mono hf9 (fun j hj => by simp only [List.mem_cons, List.not_mem_nil, or_false] at hj ⊢; omega))) hg8 hx9 hM9 hq8 (magS_of (s := (10 * sl + τ.length)) ⟨rfl, fun j hj => ⟨rfl, rfl, rfl, pk_un hj⟩, fun _ _ => ⟨rfl, rfl, rfl⟩⟩ (by omega) (by omega)))
                    refine wp_step rfl rfl ?_
                    refine wp_getg (v := (.int 0)) rfl h4.1 (by decide) (congrArg Value.int h4.2.2.2.2.2.1) ?_
                    refine wp_if_f rfl rfl ?_
                    iterate 2 refine wp_step rfl rfl ?_
                    refine wp_icmp rfl (fun c5 => ?_) (fun c5 => ?_)
                    · replace c5 := n_le_t (a := n) (b := 8) (by omega) (by omega) c5
                      clear bad4
                      refine wp_step rfl rfl ?_
                      refine wp_getg rfl h4.1 (by decide) rfl ?_
                      iterate 2 refine wp_step rfl rfl ?_
                      refine wp_ast rfl (Or.inl ⟨rfl, rfl⟩) hM4.2.2.2.2.1 (am_in_nI (by omega) (by decide)) ?_
                      rw [nI_clamp (by omega)]
                      rw [show vp_nar (am_ty 0) (Int32.ofInt 0) = Int32.ofInt 0 from rfl]
                      show wp X (d + 4) 117 165 [some (.ref 408), some (.int (nI (10 * sl + τ.length))), some (.int (nI (p1 + 1 + 1))), some (.long (lN id)), none, some (.int (nI (b p1))), some (.int (nI (b (p1 + 1)))), some (.int (nI n)), none] [] (am_upd T4 421 (iA 80 (upd M.2.2.2.2.1 (10 * sl + τ.length) (nI 0)))) Q
                      have hM5 := mTa_421 hM4 (upd M.2.2.2.2.1 (10 * sl + τ.length) (nI 0))
                      have h5 := mR_fr h4 (fr_up (js := [421]) (S := T4) (a := 421) (x := iA 80 (upd M.2.2.2.2.1 (10 * sl + τ.length) (nI 0))) (by simp)) (by decide) (by decide)
                      have hf5 : fr [421] T4 (am_upd T4 421 (iA 80 (upd M.2.2.2.2.1 (10 * sl + τ.length) (nI 0)))) := fr_up (by simp)
                      generalize am_upd T4 421 (iA 80 (upd M.2.2.2.2.1 (10 * sl + τ.length) (nI 0))) = T5 at hM5 h5 hf5 ⊢
                      iterate 2 refine wp_step rfl rfl ?_
                      show wp X (d + 4) 117 168 [some (.ref 408), some (.int (nI (10 * sl + τ.length))), some (.int (nI (p1 + 1 + 1))), some (.long (lN id)), none, some (.int (nI (b p1))), some (.int (nI (b (p1 + 1)))), some (.int (nI n)), some (.int (nI 0))] [] T5 Q
                      have hf15 : fr [408, 417, 418, 419, 420, 421, 422, 423, 424] S T5 := fr_trans (fr_mono hf14 (fun j hj => by simp only [List.mem_cons, List.not_mem_nil, or_false] at hj ⊢; omega)) (fr_mono hf5 (fun j hj => by simp only [List.mem_cons, List.not_mem_nil, or_false] at hj ⊢; omega))
                      have ha5 : mag M (M.1, M.2.1, M.2.2.1, M.2.2.2.1, upd M.2.2.2.2.1 (10 * sl + τ.length) (nI 0), M.2.2.2.2.2.1, M.2.2.2.2.2.2.1, M.2.2.2.2.2.2.2) (10 * sl + τ.length) := ⟨rfl, fun j hj => ⟨rfl, rfl, rfl, pk_un hj⟩, fun _ _ => ⟨rfl, rfl, rfl⟩⟩
                      refine tt_loop hb (by omega) c5 n 0 [] p2 T5 J4 _ (by omega) rfl h5 hM5 ⟨pk_us, fun f y hy => by simp at hy⟩ (fun i y hy => by simp at hy) (fun fs p3 T6 J6 M6 e6 hf6 hg6 h6 hM6 hF6 ha6 => ?_) (fun k pl T6 J6 M6 e6 hf6 hg6 h6 hM6 hq6 ha6 => ?_)
                      · have hg16 := gf_trans hg14 hg6
                        have ha16 := mag_trans ha5 ha6
                        have h206 : J6 20 = nI sl := (hg16 20 (by decide)).trans h20
                        have hM61 : M6.1 sl = nI τ.length := (congrFun ha16.1 sl).trans hT.1
                        refine wp_step rfl rfl ?_
                        refine wp_getg (v := (.int 0)) rfl h6.1 (by decide) (congrArg Value.int h6.2.2.2.2.2.1) ?_
                        refine wp_if_t rfl rfl ?_
                        refine wp_step rfl rfl ?_
                        refine wp_getg rfl h6.1 (by decide) rfl ?_
                        iterate 2 refine wp_step rfl rfl ?_
                        refine wp_last rfl hM6.2.1 (am_in_nI (by omega) (by decide)) ?_
                        rw [nI_clamp (by omega)]
                        show wp X (d + 4) 117 208 [some (.ref 408), some (.int (nI (10 * sl + τ.length))), some (.int (nI (p1 + 1 + 1))), some (.long (lN id)), none, some (.int (nI (b p1))), some (.int (nI (b (p1 + 1)))), some (.int (nI n)), some (.int (nI n))] [] (am_upd T6 418 (lA 80 (vp_updL M6.2.1 (10 * sl + τ.length) (lN id)))) Q
                        have r1 := mR_fr h6 (fr_up (js := [418]) (S := T6) (a := 418) (x := lA 80 (vp_updL M6.2.1 (10 * sl + τ.length) (lN id))) (by simp)) (by decide) (by decide)
                        have m1 := mTa_418 hM6 (vp_updL M6.2.1 (10 * sl + τ.length) (lN id))
                        have hf_A1 : fr [418] T6 (am_upd T6 418 (lA 80 (vp_updL M6.2.1 (10 * sl + τ.length) (lN id)))) := fr_up (by simp)
                        generalize am_upd T6 418 (lA 80 (vp_updL M6.2.1 (10 * sl + τ.length) (lN id))) = A1 at r1 m1 hf_A1 ⊢
                        refine wp_step rfl rfl ?_
                        refine wp_getg rfl r1.1 (by decide) rfl ?_
                        iterate 2 refine wp_step rfl rfl ?_
                        refine wp_ast rfl (Or.inl ⟨rfl, rfl⟩) m1.2.2.1 (am_in_nI (by omega) (by decide)) ?_
                        rw [nI_clamp (by omega)]
                        rw [show vp_nar (am_ty 0) (nI (b p1)) = nI (b p1) from rfl]
                        show wp X (d + 4) 117 216 [some (.ref 408), some (.int (nI (10 * sl + τ.length))), some (.int (nI (p1 + 1 + 1))), some (.long (lN id)), none, some (.int (nI (b p1))), some (.int (nI (b (p1 + 1)))), some (.int (nI n)), some (.int (nI n))] [] (am_upd A1 419 (iA 80 (upd M6.2.2.1 (10 * sl + τ.length) (nI (b p1))))) Q
                        have r2 := mR_fr r1 (fr_up (js := [419]) (S := A1) (a := 419) (x := iA 80 (upd M6.2.2.1 (10 * sl + τ.length) (nI (b p1)))) (by simp)) (by decide) (by decide)
                        have m2 := mTa_419 m1 (upd M6.2.2.1 (10 * sl + τ.length) (nI (b p1)))
                        have hf_A2 : fr [419] A1 (am_upd A1 419 (iA 80 (upd M6.2.2.1 (10 * sl + τ.length) (nI (b p1))))) := fr_up (by simp)
                        generalize am_upd A1 419 (iA 80 (upd M6.2.2.1 (10 * sl + τ.length) (nI (b p1)))) = A2 at r2 m2 hf_A2 ⊢
                        refine wp_step rfl rfl ?_
                        refine wp_getg rfl r2.1 (by decide) rfl ?_
                        iterate 2 refine wp_step rfl rfl ?_
                        refine wp_ast rfl (Or.inl ⟨rfl, rfl⟩) m2.2.2.2.1 (am_in_nI (by omega) (by decide)) ?_
                        rw [nI_clamp (by omega)]
                        rw [show vp_nar (am_ty 0) (nI (b (p1 + 1))) = nI (b (p1 + 1)) from rfl]
                        show wp X (d + 4) 117 224 [some (.ref 408), some (.int (nI (10 * sl + τ.length))), some (.int (nI (p1 + 1 + 1))), some (.long (lN id)), none, some (.int (nI (b p1))), some (.int (nI (b (p1 + 1)))), some (.int (nI n)), some (.int (nI n))] [] (am_upd A2 420 (iA 80 (upd M6.2.2.2.1 (10 * sl + τ.length) (nI (b (p1 + 1)))))) Q
                        have r3 := mR_fr r2 (fr_up (js := [420]) (S := A2) (a := 420) (x := iA 80 (upd M6.2.2.2.1 (10 * sl + τ.length) (nI (b (p1 + 1))))) (by simp)) (by decide) (by decide)
                        have m3 := mTa_420 m2 (upd M6.2.2.2.1 (10 * sl + τ.length) (nI (b (p1 + 1))))
                        have hf_A3 : fr [420] A2 (am_upd A2 420 (iA 80 (upd M6.2.2.2.1 (10 * sl + τ.length) (nI (b (p1 + 1)))))) := fr_up (by simp)
                        generalize am_upd A2 420 (iA 80 (upd M6.2.2.2.1 (10 * sl + τ.length) (nI (b (p1 + 1))))) = A3 at r3 m3 hf_A3 ⊢
                        refine wp_step rfl rfl ?_
                        refine wp_getg rfl r3.1 (by decide) rfl ?_
                        refine wp_step rfl rfl ?_
                        refine wp_getg (v := (.int (nI sl))) rfl r3.1 (by decide) (congrArg Value.int h206) ?_
                        refine wp_step rfl rfl ?_
                        refine wp_ald rfl (Or.inl ⟨rfl, rfl⟩) (by decide) m3.1 (am_in_nI (by omega) (by decide)) ?_
                        rw [nI_clamp (by omega)]
                        rw [hM61]
                        iterate 2 refine wp_step rfl rfl ?_
                        rw [show nI τ.length + Int32.ofInt 1 = nI (τ.length + 1) from nI_add τ.length 1]
                        refine wp_ast rfl (Or.inl ⟨rfl, rfl⟩) m3.1 (am_in_nI (by omega) (by decide)) ?_
                        rw [nI_clamp (by omega)]
                        rw [show vp_nar (am_ty 0) (nI (τ.length + 1)) = nI (τ.length + 1) from rfl]
                        show wp X (d + 4) 117 237 [some (.ref 408), some (.int (nI (10 * sl + τ.length))), some (.int (nI (p1 + 1 + 1))), some (.long (lN id)), none, some (.int (nI (b p1))), some (.int (nI (b (p1 + 1)))), some (.int (nI n)), some (.int (nI n))] [] (am_upd A3 417 (iA 8 (upd M6.1 sl (nI (τ.length + 1))))) Q
                        have r4 := mR_fr r3 (fr_up (js := [417]) (S := A3) (a := 417) (x := iA 8 (upd M6.1 sl (nI (τ.length + 1)))) (by simp)) (by decide) (by decide)
                        have m4 := mTa_417 m3 (upd M6.1 sl (nI (τ.length + 1)))
                        have hf_A4 : fr [417] A3 (am_upd A3 417 (iA 8 (upd M6.1 sl (nI (τ.length + 1))))) := fr_up (by simp)
                        generalize am_upd A3 417 (iA 8 (upd M6.1 sl (nI (τ.length + 1)))) = A4 at r4 m4 hf_A4 ⊢
                        refine wp_vret rfl rfl (hret (id, b p1, b (p1 + 1), fs) p3 A4 J6 _ (by unfold rdTT; rw [e1]; dsimp only; rw [if_neg hok]; unfold rdT1; rw [if_neg hn1, if_neg hok2, if_neg hn2, if_neg (by omega), e4]; dsimp only; rw [if_neg (by omega), e6]) (fr_trans hf15 (fr_trans (fr_mono hf6 (fun j hj => by simp only [List.mem_cons, List.not_mem_nil, or_false] at hj ⊢; omega)) (fr_trans (fr_mono hf_A1 (fun j hj => by simp only [List.mem_cons, List.not_mem_nil, or_false] at hj ⊢; omega)) (fr_trans (fr_mono hf_A2 (fun j hj => by simp only [List.mem_cons, List.not_mem_nil, or_false] at hj ⊢; omega)) (fr_trans (fr_mono hf_A3 (fun j hj => by simp only [List.mem_cons, List.not_mem_nil, or_false] at hj ⊢; omega)) (fr_mono hf_A4 (fun j hj => by simp only [List.mem_cons, List.not_mem_nil, or_false] at hj ⊢; omega))))))) hg16 r4 m4 ?_ ?_)
                        · refine ⟨by rw [List.length_append]; exact pk_us, fun t x hx => ?_⟩
                          rcases at_app hx with ⟨g1, g2⟩ | ⟨g1, g2⟩
                          · obtain ⟨b1, b2, b3, b4⟩ := mT1_mag (hT.2 t x g2) ha16 (by omega) (htf t x g2)
                            exact ⟨(pk_uLn (by omega)).trans b1, (pk_un (by omega)).trans b2, (pk_un (by omega)).trans b3, b4⟩
                          · subst g1; subst g2; exact ⟨pk_uLs, pk_us, pk_us, hF6⟩
                        · have ha9 := magS_of ha16 (show 10 * sl ≤ (10 * sl + τ.length) by omega) (by omega)
                          refine ⟨fun j hj => (pk_un hj).trans (ha9.1 j hj), fun j hj => ?_, fun j hj => ha9.2.2 j hj⟩
                          obtain ⟨b1, b2, b3, b4⟩ := ha9.2.1 j hj
                          exact ⟨(pk_uLn (by omega)).trans b1, (pk_un (by omega)).trans b2, (pk_un (by omega)).trans b3, b4⟩
                      · exact hbad k pl T6 J6 M6 (by unfold rdTT; rw [e1]; dsimp only; rw [if_neg hok]; unfold rdT1; rw [if_neg hn1, if_neg hok2, if_neg hn2, if_neg (by omega), e4]; dsimp only; rw [if_neg (by omega), e6]) (fr_trans hf15 (fr_mono hf6 (fun j hj => by simp only [List.mem_cons, List.not_mem_nil, or_false] at hj ⊢; omega))) (gf_trans (gf_mono hg14 (fun j hj => by simp only [List.mem_cons, List.not_mem_nil, or_false] at hj ⊢; omega)) hg6) h6 hM6 hq6 (magS_of (mag_trans ha5 ha6) (by omega) (by omega))
                    · replace c5 := n_le_f (a := n) (b := 8) (by omega) (by omega) c5
                      exact bad4 c5
                  · have hg14 := gf_trans (gf_mono hg13 (fun j hj => by simp only [List.mem_cons, List.not_mem_nil, or_false] at hj ⊢; omega)) hg4
                    refine wp_step rfl rfl ?_
                    show wp X (d + 4) 117 138 [some (.ref 408), some (.int (nI (10 * sl + τ.length))), some (.int (nI (p1 + 1 + 1))), some (.long (lN id)), none, some (.int (nI (b p1))), some (.int (nI (b (p1 + 1)))), some (.int 0), none] [] T4 Q
                    exact tt_138 (d := d + 1) h4 (mTa_fr hM3 hf4 (fun j hj => by simp only [List.mem_cons, List.not_mem_nil, or_false] at hj; omega)) (by omega) hq4 ⟨lim, (hg14 22 (by decide)).trans h.2.2.2.2.1⟩ (fun T9 hf9 hM9 hx9 => hbad 2 (p1 + 1 + 1) T9 _ _ (by unfold rdTT; rw [e1]; dsimp only; rw [if_neg hok]; unfold rdT1; rw [if_neg hn1, if_neg hok2, if_neg hn2, if_neg (by omega), e4]) (fr_trans (fr_mono (fr_trans hf13 hf4) (fun j hj => by simp only [List.mem_cons, List.not_mem_nil, or_false] at hj ⊢; omega)) (fr_mono hf9 (fun j hj => by simp only [List.mem_cons, List.not_mem_nil, or_false] at hj ⊢; omega))) hg14 hx9 hM9 hq4 (magS_of (s := (10 * sl + τ.length)) ⟨rfl, fun j hj => ⟨rfl, rfl, rfl, pk_un hj⟩, fun _ _ => ⟨rfl, rfl, rfl⟩⟩ (by omega) (by omega)))
                · replace c4 := n_le_f (a := b (p1 + 1)) (b := 1) (by omega) (by omega) c4
                  exact bad3 c4
              · have hg13 := gf_trans (gf_mono hg12 (fun j hj => by simp only [List.mem_cons, List.not_mem_nil, or_false] at hj ⊢; omega)) hg3
                refine wp_step rfl rfl ?_
                show wp X (d + 4) 117 108 [some (.ref 408), some (.int (nI (10 * sl + τ.length))), some (.int (nI (p1 + 1))), some (.long (lN id)), none, some (.int (nI (b p1))), some (.int 0), none, none] [] T3 Q
                exact tt_108 (d := d + 1) h3 (mTa_fr hM2 hf3 (fun j hj => by simp only [List.mem_cons, List.not_mem_nil, or_false] at hj; omega)) (by omega) hq3 ⟨lim, (hg13 22 (by decide)).trans h.2.2.2.2.1⟩ (fun T9 hf9 hM9 hx9 => hbad 2 (p1 + 1) T9 _ _ (by unfold rdTT; rw [e1]; dsimp only; rw [if_neg hok]; unfold rdT1; rw [if_neg hn1, if_neg hok2, if_pos hle3]) (fr_trans (fr_mono (fr_trans hf12 hf3) (fun j hj => by simp only [List.mem_cons, List.not_mem_nil, or_false] at hj ⊢; omega)) (fr_mono hf9 (fun j hj => by simp only [List.mem_cons, List.not_mem_nil, or_false] at hj ⊢; omega))) hg13 hx9 hM9 hq3 (magS_of (s := (10 * sl + τ.length)) ⟨rfl, fun j hj => ⟨rfl, rfl, rfl, pk_un hj⟩, fun _ _ => ⟨rfl, rfl, rfl⟩⟩ (by omega) (by omega)))
            · replace c3 := n_le_f (a := b p1) (b := 90) (by omega) (by omega) c3
              exact bad2 (Or.inr c3)
        · have hg12 := gf_trans (gf_mono hg1 (fun j hj => by simp only [List.mem_cons, List.not_mem_nil, or_false] at hj ⊢; omega)) hg2
          refine wp_step rfl rfl ?_
          show wp X (d + 4) 117 70 [some (.ref 408), some (.int (nI (10 * sl + τ.length))), some (.int (nI p1)), some (.long (lN id)), none, some (.int 0), none, none, none] [] T2 Q
          exact tt_70 (d := d + 1) h2 (mTa_fr hM1 hf2 (fun j hj => by simp only [List.mem_cons, List.not_mem_nil, or_false] at hj; omega)) (by omega) hq2 ⟨lim, (hg12 22 (by decide)).trans h.2.2.2.2.1⟩ (fun T9 hf9 hM9 hx9 => hbad 2 p1 T9 _ _ (by unfold rdTT; rw [e1]; dsimp only; rw [if_neg hok]; unfold rdT1; rw [if_pos hle2]) (fr_trans (fr_mono (fr_trans hf1 hf2) (fun j hj => by simp only [List.mem_cons, List.not_mem_nil, or_false] at hj ⊢; omega)) (fr_mono hf9 (fun j hj => by simp only [List.mem_cons, List.not_mem_nil, or_false] at hj ⊢; omega))) hg12 hx9 hM9 hq2 (magS_of (s := (10 * sl + τ.length)) ⟨rfl, fun j hj => ⟨rfl, rfl, rfl, pk_un hj⟩, fun _ _ => ⟨rfl, rfl, rfl⟩⟩ (by omega) (by omega)))
  · iterate 2 refine wp_step rfl rfl ?_
    show wp X (d + 4) 117 29 [some (.ref 408), some (.int (nI (10 * sl + τ.length))), some (.int (nI p)), some (.long (Int32.toInt64 0)), none, none, none, none, none] [] T Q
    refine wp_step rfl rfl ?_
    refine wp_getg (v := (.int 2)) rfl h1.1 (by decide) (congrArg Value.int h1.2.1) ?_
    refine wp_if_t rfl rfl ?_
    exact tt_59 (d := d + 1) h1 (mTa_fr hM hf1 (fun j hj => by simp only [List.mem_cons, List.not_mem_nil, or_false] at hj; omega)) (by omega) hq1 ⟨lim, (hg1 22 (by decide)).trans h.2.2.2.2.1⟩ (fun T9 hf9 hM9 hx9 => hbad 2 p T9 _ _ (by unfold rdTT; rw [e1]) (fr_trans (fr_mono hf1 (fun j hj => by simp only [List.mem_cons, List.not_mem_nil, or_false] at hj ⊢; omega)) (fr_mono hf9 (fun j hj => by simp only [List.mem_cons, List.not_mem_nil, or_false] at hj ⊢; omega))) hg1 hx9 hM9 hq1 (magS_of (s := (10 * sl + τ.length)) ⟨rfl, fun j hj => ⟨rfl, rfl, rfl, pk_un hj⟩, fun _ _ => ⟨rfl, rfl, rfl⟩⟩ (by omega) (by omega)))
end MTELL3
