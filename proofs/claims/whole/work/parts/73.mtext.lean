/-! THE MODEL: texts and plain values -/
section MTEXT
variable {X : Nat × (Nat → Int32)} {d : Nat} {Q : am_R → Prop} {st li : Int64} {b : Nat → Nat} {w lim : Nat}
theorem mt_loop4 {n : Nat} {x1 x2 x3 : Option Value} (hb : ∀ j, b j < 256) (hn : n < 2 ^ 31) : ∀ (m k p : Nat) (S : am_S) (I : Nat → Int32), k + m = n → mR S I st li b w p lim →
    (∀ ls p' T J, nls b lim m p = .inr (ls, p') → fr [408] S T → gf [21] I J → mR T J st li b w p' lim → Q (.inl none, T)) →
    (∀ k pl T J, nls b lim m p = .inl (k, pl) → fr [408] S T → gf [21, 25, 26] I J → mX T J st li k pl → (∃ q, J 21 = nI q) → Q (.inl none, T)) → wp X (d + 2) 110 72 [some (.ref 408), x1, x2, x3, some (.int (nI n)), some (.int (nI k))] [] S Q := by
  intro m
  induction m with
  | zero =>
    intro k p S I hk h hret hbad
    have e9 : k = n := by omega
    subst e9
    iterate 2 refine wp_step rfl rfl ?_
    refine wp_icmp rfl (fun c0 => ?_) (fun c0 => ?_)
    · replace c0 := n_ge_t (a := k) (b := k) (by omega) (by omega) c0
      refine wp_vret rfl rfl (hret [] p S I rfl (fr_refl _ _) (gf_refl _ _) h)
    · replace c0 := n_ge_f (a := k) (b := k) (by omega) (by omega) c0
      omega
  | succ m ih =>
    intro k p S I hk h hret hbad
    iterate 2 refine wp_step rfl rfl ?_
    refine wp_icmp rfl (fun c0 => ?_) (fun c0 => ?_)
    · replace c0 := n_ge_t (a := k) (b := n) (by omega) (by omega) c0
      omega
    · replace c0 := n_ge_f (a := k) (b := n) (by omega) (by omega) c0
      refine wp_step rfl rfl ?_
      refine wp_getg (v := (.int 0)) rfl h.1 (by decide) (congrArg Value.int h.2.2.2.2.2.1) ?_
      refine wp_if_f rfl rfl ?_
      refine wp_step rfl rfl ?_
      refine wp_c0 rfl rfl (by decide) rfl (recv_ok h.1 rfl) rfl (q_mcomp hb h (fun v q T J e1 hf1 hg1 h1 => ?_) (fun v T J e1 hf1 hg1 h1 hq1 => ?_))
      · iterate 3 refine wp_step rfl rfl ?_
        rw [show nI k + Int32.ofInt 1 = nI (k + 1) from nI_add k 1]
        exact ih (k + 1) q T J (by omega) h1 (fun ls p2 T2 J2 e2 hf2 hg2 h2 => hret (c16 v :: ls) p2 T2 J2 (by unfold nls; rw [e1]; dsimp only; rw [e2]) (fr_trans hf1 hf2) (gf_trans hg1 hg2) h2) (fun k2 pl T2 J2 e2 hf2 hg2 h2 hq2 => hbad k2 pl T2 J2 (by unfold nls; rw [e1]; dsimp only; rw [e2]) (fr_trans hf1 hf2) (gf_trans (gf_mono hg1 (fun j hj => by simp only [List.mem_cons, List.not_mem_nil, or_false] at hj ⊢; omega)) hg2) h2 hq2)
      · iterate 3 refine wp_step rfl rfl ?_
        rw [show nI k + Int32.ofInt 1 = nI (k + 1) from nI_add k 1]
        iterate 2 refine wp_step rfl rfl ?_
        refine wp_icmp rfl (fun c1 => ?_) (fun c1 => ?_)
        · replace c1 := n_ge_t (a := k + 1) (b := n) (by omega) (by omega) c1
          refine wp_vret rfl rfl (hbad 2 p T J (by unfold nls; rw [e1]) hf1 hg1 h1 hq1)
        · replace c1 := n_ge_f (a := k + 1) (b := n) (by omega) (by omega) c1
          refine wp_step rfl rfl ?_
          refine wp_getg (v := (.int 2)) rfl h1.1 (by decide) (congrArg Value.int h1.2.1) ?_
          refine wp_if_t rfl rfl ?_
          refine wp_vret rfl rfl (hbad 2 p T J (by unfold nls; rw [e1]) hf1 hg1 h1 hq1)
set_option maxHeartbeats 1000000 in
theorem mt_loop3 {n stop : Nat} {x1 x3 : Option Value} (hb : ∀ j, b j < 256) (hs : stop ≤ 960) : ∀ (g f : Nat), f ≤ g → ∀ (p : Nat) (S : am_S) (I : Nat → Int32), p ≤ stop → stop ≤ p + f → mR S I st li b w p lim →
    (∀ ls T J, us b stop f p = .inr ls → fr [408] S T → gf [21] I J → mR T J st li b w stop lim → Q (.inl none, T)) →
    (∀ k pl T J, us b stop f p = .inl (k, pl) → fr [408] S T → gf [21, 25, 26] I J → mX T J st li k pl → (∃ q, J 21 = nI q) → Q (.inl none, T)) → wp X (d + 3) 110 142 [some (.ref 408), x1, some (.int (nI 3)), x3, some (.int (nI n)), some (.int (nI stop))] [] S Q := by
  intro g f hfg
  clear hfg g
  induction f using Nat.strongRecOn with
  | _ f ih =>
    intro p S I hps hsf h hret hbad
    iterate 2 refine wp_step rfl rfl ?_
    refine wp_icmp_f rfl rfl ?_
    refine wp_step rfl rfl ?_
    refine wp_getg (v := (.int (nI p))) rfl h.1 (by decide) (congrArg Value.int h.2.2.2.1) ?_
    refine wp_step rfl rfl ?_
    refine wp_icmp rfl (fun c0 => ?_) (fun c0 => ?_)
    · replace c0 := n_ge_t (a := p) (b := stop) (by omega) (by omega) c0
      have hus : us b stop f p = .inr [] := by
        cases f with
        | zero => rfl
        | succ f => unfold us; rw [if_pos c0]
      iterate 2 refine wp_step rfl rfl ?_
      refine wp_getg (v := (.int 0)) rfl h.1 (by decide) (congrArg Value.int h.2.2.2.2.2.1) ?_
      refine wp_if_f rfl rfl ?_
      iterate 2 refine wp_step rfl rfl ?_
      refine wp_putg rfl h.1 (by decide) rfl rfl ?_
      rw [mkG_i rfl]
      refine wp_vret rfl rfl (hret [] _ _ hus (fr_up (by simp)) (gf_up (gf_refl _ _) (by simp)) (mR_at h (fr_up (by simp)) (am_get_self h.1) (gf_up (gf_refl _ _) (by simp)) pk_us hs))
    · replace c0 := n_ge_f (a := p) (b := stop) (by omega) (by omega) c0
      refine wp_step rfl rfl ?_
      refine wp_getg (v := (.int 0)) rfl h.1 (by decide) (congrArg Value.int h.2.2.2.2.2.1) ?_
      refine wp_if_f rfl rfl ?_
      cases f with
      | zero => omega
      | succ f =>
        iterate 2 refine wp_step rfl rfl ?_
        refine wp_c0 rfl rfl (by decide) rfl (recv_ok h.1 rfl) rfl (q_mchar hb h c0 hs (fun c m T J e1 hf1 hg1 h1 => ?_) (fun c T J e1 hf1 hg1 h1 hq1 => ?_))
        · have hu := u8_ok e1 c0
          iterate 2 refine wp_step rfl rfl ?_
          exact ih f (by omega) (p + m) T J (by omega) (by omega) h1 (fun ls T2 J2 e2 hf2 hg2 h2 => hret (c :: ls) T2 J2 (by unfold us; rw [if_neg (by omega), e1]; dsimp only; rw [e2]) (fr_trans hf1 hf2) (gf_trans hg1 hg2) h2) (fun k2 pl T2 J2 e2 hf2 hg2 h2 hq2 => hbad k2 pl T2 J2 (by unfold us; rw [if_neg (by omega), e1]; dsimp only; rw [e2]) (fr_trans hf1 hf2) (gf_trans (gf_mono hg1 (fun j hj => by simp only [List.mem_cons, List.not_mem_nil, or_false] at hj ⊢; omega)) hg2) h2 hq2)
        · obtain ⟨q, hq9⟩ := hq1
          have K : wp X (d + 3) 110 173 [some (.ref 408), x1, some (.int (nI 3)), x3, some (.int (nI n)), some (.int (nI stop))] [] T Q := by
            iterate 2 refine wp_step rfl rfl ?_
            refine wp_getg (v := (.int 6)) rfl h1.1 (by decide) (congrArg Value.int h1.2.1) ?_
            refine wp_if_t rfl rfl ?_
            refine wp_step rfl rfl ?_
            refine wp_getg (v := (.int (nI q))) rfl h1.1 (by decide) (congrArg Value.int hq9) ?_
            refine wp_putg rfl h1.1 (by decide) rfl rfl ?_
            rw [mkG_i rfl]
            refine wp_vret rfl rfl (hbad 6 p _ _ (by unfold us; rw [if_neg (by omega), e1]) (fr_trans hf1 (fr_up (by simp))) (gf_up hg1 (by simp)) ⟨am_get_self h1.1, (pk_un (by decide)).trans h1.2.1, h1.2.2.1, (pk_un (by decide)).trans h1.2.2.2⟩ ⟨q, pk_us⟩)
          iterate 2 refine wp_step rfl rfl ?_
          iterate 2 refine wp_step rfl rfl ?_
          refine wp_icmp_f rfl rfl ?_
          refine wp_step rfl rfl ?_
          refine wp_getg (v := (.int (nI q))) rfl h1.1 (by decide) (congrArg Value.int hq9) ?_
          refine wp_step rfl rfl ?_
          refine wp_icmp rfl (fun c9 => ?_) (fun c9 => ?_)
          · exact K
          · refine wp_step rfl rfl ?_
            refine wp_getg (v := (.int 6)) rfl h1.1 (by decide) (congrArg Value.int h1.2.1) ?_
            refine wp_if_t rfl rfl ?_
            exact K
set_option maxHeartbeats 2000000 in
theorem q_mtext {p : Nat} {S : am_S} {I : Nat → Int32} (hb : ∀ j, b j < 256) (h : mR S I st li b w p lim)
    (hret : ∀ tv p' T J, rdX b lim p = .inr (tv, p') → fr [408] S T → gf [21] I J → mR T J st li b w p' lim → Q (.inl none, T))
    (hbad : ∀ k pl T J, rdX b lim p = .inl (k, pl) → fr [408] S T → gf [21, 25, 26] I J → mX T J st li k pl → (∃ q, J 21 = nI q) → Q (.inl none, T)) : ev X (d + 4) 110 [.ref 408] S Q := by
  refine ev_wp (L0 := [some (.ref 408), none, none, none, none, none]) (Nat.le_of_ble_eq_true rfl) rfl ?_
  have hk9 := h.2.2.2.2.2.2
  refine wp_step rfl rfl ?_
  refine wp_getg (v := (.int (nI p))) rfl h.1 (by decide) (congrArg Value.int h.2.2.2.1) ?_
  iterate 2 refine wp_step rfl rfl ?_
  refine wp_c0 rfl rfl (by decide) rfl (recv_ok h.1 rfl) rfl (q_mnext hb h (fun T J hlt hf1 hg1 h1 => ?_) (fun T J hle hf1 hg1 h1 hq1 => ?_))
  · have hbp := hb p
    have hn1 : ¬ lim ≤ p := by omega
    refine wp_step rfl rfl ?_
    show wp X (d + 3) 110 10 [some (.ref 408), some (.int (nI p)), some (.int (nI (b p))), none, none, none] [] T Q
    refine wp_step rfl rfl ?_
    refine wp_getg (v := (.int 0)) rfl h1.1 (by decide) (congrArg Value.int h1.2.2.2.2.2.1) ?_
    refine wp_if_f rfl rfl ?_
    iterate 2 refine wp_step rfl rfl ?_
    refine wp_icmp rfl (fun c0 => ?_) (fun c0 => ?_)
    · replace c0 := n_le_t (a := b p) (b := 5) (by omega) (by omega) c0
      refine wp_step rfl rfl ?_
      refine wp_getg (v := (.int 0)) rfl h1.1 (by decide) (congrArg Value.int h1.2.2.2.2.2.1) ?_
      refine wp_if_f rfl rfl ?_
      iterate 2 refine wp_step rfl rfl ?_
      refine wp_icmp rfl (fun c1 => ?_) (fun c1 => ?_)
      · replace c1 := n_ge_t (a := b p) (b := 2) (by omega) (by omega) c1
        iterate 2 refine wp_step rfl rfl ?_
        refine wp_icmp rfl (fun c2 => ?_) (fun c2 => ?_)
        · replace c2 := n_ne_t (a := b p) (b := 2) (by omega) (by omega) c2
          refine wp_step rfl rfl ?_
          refine wp_getg (v := (.int (nI (p + 1)))) rfl h1.1 (by decide) (congrArg Value.int h1.2.2.2.1) ?_
          iterate 2 refine wp_step rfl rfl ?_
          refine wp_c0 rfl rfl (by decide) rfl (recv_ok h1.1 rfl) rfl (q_msmall hb h1 (fun n q T2 J2 e2 hf2 hg2 h2 => ?_) (fun T2 J2 e2 hf2 hg2 h2 hq2 => ?_))
          · have hcl := cnt_lt e2
            have hg12 := gf_trans hg1 hg2
            have hf12 := fr_trans hf1 hf2
            have hk2 := h2.2.2.2.2.2.2
            refine wp_step rfl rfl ?_
            show wp X (d + 3) 110 64 [some (.ref 408), some (.int (nI p)), some (.int (nI (b p))), some (.int (nI (p + 1))), some (.int (nI n)), none] [] T2 Q
            iterate 2 refine wp_step rfl rfl ?_
            refine wp_icmp rfl (fun c3 => ?_) (fun c3 => ?_)
            · replace c3 := n_ne_t (a := b p) (b := 4) (by omega) (by omega) c3
              refine wp_step rfl rfl ?_
              refine wp_getg (v := (.int 0)) rfl h2.1 (by decide) (congrArg Value.int h2.2.2.2.2.2.1) ?_
              refine wp_if_f rfl rfl ?_
              iterate 2 refine wp_step rfl rfl ?_
              refine wp_getg (v := (.int (nI lim))) rfl h2.1 (by decide) (congrArg Value.int h2.2.2.2.2.1) ?_
              refine wp_step rfl rfl ?_
              refine wp_getg (v := (.int (nI q))) rfl h2.1 (by decide) (congrArg Value.int h2.2.2.2.1) ?_
              refine wp_step rfl rfl ?_
              rw [pk_sub (by omega)]
              refine wp_icmp rfl (fun c4 => ?_) (fun c4 => ?_)
              · replace c4 := n_le_t (a := n) (b := lim - q) (by omega) (by omega) c4
                refine wp_step rfl rfl ?_
                refine wp_getg (v := (.int 0)) rfl h2.1 (by decide) (congrArg Value.int h2.2.2.2.2.2.1) ?_
                refine wp_if_t rfl rfl ?_
                refine wp_step rfl rfl ?_
                refine wp_getg (v := (.int (nI q))) rfl h2.1 (by decide) (congrArg Value.int h2.2.2.2.1) ?_
                iterate 2 refine wp_step rfl rfl ?_
                rw [nI_add]
                refine wp_step rfl rfl ?_
                show wp X (d + 3) 110 142 [some (.ref 408), some (.int (nI p)), some (.int (nI (b p))), some (.int (nI (p + 1))), some (.int (nI n)), some (.int (nI (q + n)))] [] T2 Q
                by_cases c5 : b p = 3
                · rw [c5]
                  refine mt_loop3 hb (by omega) n n (Nat.le_refl _) q T2 J2 (by omega) (Nat.le_refl _) h2 (fun ls T3 J3 e3 hf3 hg3 h3 => ?_) (fun k pl T3 J3 e3 hf3 hg3 h3 hq3 => ?_)
                  · exact hret _ (q + n) T3 J3 (by unfold rdX; rw [if_neg hn1, if_neg (by omega), if_neg c2, if_neg (by omega), if_neg (by omega), e2]; dsimp only; rw [if_neg c3, if_neg (by omega), if_pos c5, e3]) (fr_trans hf12 hf3) (gf_trans hg12 hg3) h3
                  · exact hbad k pl T3 J3 (by unfold rdX; rw [if_neg hn1, if_neg (by omega), if_neg c2, if_neg (by omega), if_neg (by omega), e2]; dsimp only; rw [if_neg c3, if_neg (by omega), if_pos c5, e3]) (fr_trans hf12 hf3) (gf_trans (gf_mono hg12 (fun j hj => by simp only [List.mem_cons, List.not_mem_nil, or_false] at hj ⊢; omega)) hg3) h3 hq3
                · iterate 2 refine wp_step rfl rfl ?_
                  refine wp_icmp rfl (fun c6 => ?_) (fun c6 => ?_)
                  · replace c6 := n_ne_t (a := b p) (b := 3) (by omega) (by omega) c6
                    iterate 2 refine wp_step rfl rfl ?_
                    refine wp_getg (v := (.int 0)) rfl h2.1 (by decide) (congrArg Value.int h2.2.2.2.2.2.1) ?_
                    refine wp_if_f rfl rfl ?_
                    iterate 2 refine wp_step rfl rfl ?_
                    refine wp_putg rfl h2.1 (by decide) rfl rfl ?_
                    rw [mkG_i rfl]
                    refine wp_vret rfl rfl (hret _ (q + n) _ _ (by unfold rdX; rw [if_neg hn1, if_neg (by omega), if_neg c2, if_neg (by omega), if_neg (by omega), e2]; dsimp only; rw [if_neg c3, if_neg (by omega), if_neg c5]) (fr_trans hf12 (fr_up (by simp))) (gf_up hg12 (by simp)) (mR_at h2 (fr_up (by simp)) (am_get_self h2.1) (gf_up (gf_refl _ _) (by simp)) pk_us (by omega)))
                  · replace c6 := n_ne_f (a := b p) (b := 3) (by omega) (by omega) c6
                    exact absurd c6 c5
              · replace c4 := n_le_f (a := n) (b := lim - q) (by omega) (by omega) c4
                iterate 3 refine wp_step rfl rfl ?_
                refine wp_c0 rfl rfl (by decide) rfl (recv_ok h2.1 rfl) rfl (q_mwrong h2.1 h2.2.2.2.2.2.1 (fun T3 hf3 h3 => ?_))
                refine wp_step rfl rfl ?_
                refine wp_getg (v := (.int 2)) rfl h3 (by decide) (congrArg Value.int pk_us) ?_
                refine wp_if_f rfl rfl ?_
                refine wp_vret rfl rfl (hbad 2 (p + 1) T3 _ (by unfold rdX; rw [if_neg hn1, if_neg (by omega), if_neg c2, if_neg (by omega), if_neg (by omega), e2]; dsimp only; rw [if_neg c3, if_pos c4]) (fr_trans hf12 hf3) (gf_up (gf_up (gf_mono hg12 (fun j hj => by simp only [List.mem_cons, List.not_mem_nil, or_false] at hj ⊢; omega)) (by simp)) (by simp)) ⟨h3, pk_us, by decide, (pk_un (by decide)).trans pk_us⟩ ⟨q, (pk_un (by decide)).trans ((pk_un (by decide)).trans h2.2.2.2.1)⟩)
            · replace c3 := n_ne_f (a := b p) (b := 4) (by omega) (by omega) c3
              iterate 2 refine wp_step rfl rfl ?_
              refine mt_loop4 hb hcl.1 n 0 q T2 J2 (by omega) h2 (fun ls p3 T3 J3 e3 hf3 hg3 h3 => ?_) (fun k pl T3 J3 e3 hf3 hg3 h3 hq3 => ?_)
              · exact hret _ p3 T3 J3 (by unfold rdX; rw [if_neg hn1, if_neg (by omega), if_neg c2, if_neg (by omega), if_neg (by omega), e2]; dsimp only; rw [if_pos c3, e3]) (fr_trans hf12 hf3) (gf_trans hg12 hg3) h3
              · exact hbad k pl T3 J3 (by unfold rdX; rw [if_neg hn1, if_neg (by omega), if_neg c2, if_neg (by omega), if_neg (by omega), e2]; dsimp only; rw [if_pos c3, e3]) (fr_trans hf12 hf3) (gf_trans (gf_mono hg12 (fun j hj => by simp only [List.mem_cons, List.not_mem_nil, or_false] at hj ⊢; omega)) hg3) h3 hq3
          · refine wp_step rfl rfl ?_
            show wp X (d + 3) 110 64 [some (.ref 408), some (.int (nI p)), some (.int (nI (b p))), some (.int (nI (p + 1))), some (.int (nI 0)), none] [] T2 Q
            iterate 2 refine wp_step rfl rfl ?_
            refine wp_icmp rfl (fun c3 => ?_) (fun c3 => ?_)
            · replace c3 := n_ne_t (a := b p) (b := 4) (by omega) (by omega) c3
              refine wp_step rfl rfl ?_
              refine wp_getg (v := (.int 2)) rfl h2.1 (by decide) (congrArg Value.int h2.2.1) ?_
              refine wp_if_t rfl rfl ?_
              refine wp_step rfl rfl ?_
              refine wp_getg (v := (.int 2)) rfl h2.1 (by decide) (congrArg Value.int h2.2.1) ?_
              refine wp_if_f rfl rfl ?_
              refine wp_vret rfl rfl (hbad 2 (p + 1) T2 J2 (by unfold rdX; rw [if_neg hn1, if_neg (by omega), if_neg c2, if_neg (by omega), if_neg (by omega), e2]) (fr_trans hf1 hf2) (gf_trans (gf_mono hg1 (fun j hj => by simp only [List.mem_cons, List.not_mem_nil, or_false] at hj ⊢; omega)) hg2) h2 hq2)
            · replace c3 := n_ne_f (a := b p) (b := 4) (by omega) (by omega) c3
              iterate 4 refine wp_step rfl rfl ?_
              refine wp_icmp_t rfl rfl ?_
              refine wp_vret rfl rfl (hbad 2 (p + 1) T2 J2 (by unfold rdX; rw [if_neg hn1, if_neg (by omega), if_neg c2, if_neg (by omega), if_neg (by omega), e2]) (fr_trans hf1 hf2) (gf_trans (gf_mono hg1 (fun j hj => by simp only [List.mem_cons, List.not_mem_nil, or_false] at hj ⊢; omega)) hg2) h2 hq2)
        · replace c2 := n_ne_f (a := b p) (b := 2) (by omega) (by omega) c2
          refine wp_step rfl rfl ?_
          refine wp_c0 rfl rfl (by decide) rfl (recv_ok h1.1 rfl) rfl (q_mcomp hb h1 (fun v q T2 J2 e2 hf2 hg2 h2 => ?_) (fun v T2 J2 e2 hf2 hg2 h2 hq2 => ?_))
          · refine wp_step rfl rfl ?_
            refine wp_vret rfl rfl (hret _ q T2 J2 (by unfold rdX; rw [if_neg hn1, if_neg (by omega), if_pos c2, e2]) (fr_trans hf1 hf2) (gf_trans hg1 hg2) h2)
          · refine wp_step rfl rfl ?_
            refine wp_vret rfl rfl (hbad 2 (p + 1) T2 J2 (by unfold rdX; rw [if_neg hn1, if_neg (by omega), if_pos c2, e2]) (fr_trans hf1 hf2) (gf_trans (gf_mono hg1 (fun j hj => by simp only [List.mem_cons, List.not_mem_nil, or_false] at hj ⊢; omega)) hg2) h2 hq2)
      · replace c1 := n_ge_f (a := b p) (b := 2) (by omega) (by omega) c1
        refine wp_vret rfl rfl (by
          by_cases g0 : b p = 0
          · exact hret _ (p + 1) T J (by unfold rdX; rw [if_neg hn1, if_pos g0]) hf1 hg1 h1
          · exact hret _ (p + 1) T J (by unfold rdX; rw [if_neg hn1, if_neg g0, if_neg (by omega), if_neg (by omega), if_pos (by omega)]) hf1 hg1 h1)
    · replace c0 := n_le_f (a := b p) (b := 5) (by omega) (by omega) c0
      iterate 3 refine wp_step rfl rfl ?_
      refine wp_c0 rfl rfl (by decide) rfl (recv_ok h1.1 rfl) rfl (q_mwrong h1.1 h1.2.2.2.2.2.1 (fun T2 hf2 h2 => ?_))
      refine wp_step rfl rfl ?_
      refine wp_getg (v := (.int 6)) rfl h2 (by decide) (congrArg Value.int pk_us) ?_
      refine wp_if_t rfl rfl ?_
      refine wp_vret rfl rfl (hbad 6 p T2 _ (by unfold rdX; rw [if_neg hn1, if_neg (by omega), if_neg (by omega), if_pos c0]) (fr_trans hf1 hf2) (gf_up (gf_up (gf_mono hg1 (fun j hj => by simp only [List.mem_cons, List.not_mem_nil, or_false] at hj ⊢; omega)) (by simp)) (by simp)) ⟨h2, pk_us, by decide, (pk_un (by decide)).trans pk_us⟩ ⟨p + 1, (pk_un (by decide)).trans ((pk_un (by decide)).trans h1.2.2.2.1)⟩)
  · refine wp_step rfl rfl ?_
    refine wp_step rfl rfl ?_
    refine wp_getg (v := (.int 2)) rfl h1.1 (by decide) (congrArg Value.int h1.2.1) ?_
    refine wp_if_t rfl rfl ?_
    refine wp_step rfl rfl ?_
    refine wp_getg (v := (.int 2)) rfl h1.1 (by decide) (congrArg Value.int h1.2.1) ?_
    refine wp_if_t rfl rfl ?_
    refine wp_vret rfl rfl (hbad 2 p T J (by unfold rdX; rw [if_pos hle]) hf1 hg1 h1 hq1)
set_option maxHeartbeats 2000000 in
theorem q_mplain {p ty : Nat} {S : am_S} {I : Nat → Int32} (hb : ∀ j, b j < 256) (h : mR S I st li b w p lim) (hty : 2 ≤ ty) (hty9 : ty < 10)
    (hret : ∀ v p' T J, rdP b lim ty p = some (v, p') → fr [408] S T → gf [21] I J → mR T J st li b w p' lim → Q (.inl none, T))
    (hbad : ∀ T J, rdP b lim ty p = none → fr [408] S T → gf [21, 25, 26] I J → mX T J st li 2 p → (∃ q, J 21 = nI q) → Q (.inl none, T)) : ev X (d + 3) 109 [.ref 408, .int (nI ty)] S Q := by
  refine ev_wp (L0 := [some (.ref 408), some (.int (nI ty)), none]) (Nat.le_of_ble_eq_true rfl) rfl ?_
  have hk9 := h.2.2.2.2.2.2
  have fixed : ∀ n, n ≤ 8 → (p + n ≤ lim → ∃ v, rdP b lim ty p = some (v, p + n)) → (lim < p + n → rdP b lim ty p = none) → wp X (d + 2) 109 55 [some (.ref 408), some (.int (nI ty)), some (.int (nI n))] [] S Q := by
    intro n hn hs hno
    refine wp_step rfl rfl ?_
    refine wp_getg (v := (.int (nI p))) rfl h.1 (by decide) (congrArg Value.int h.2.2.2.1) ?_
    iterate 2 refine wp_step rfl rfl ?_
    rw [nI_add]
    refine wp_step rfl rfl ?_
    refine wp_getg (v := (.int (nI lim))) rfl h.1 (by decide) (congrArg Value.int h.2.2.2.2.1) ?_
    refine wp_icmp rfl (fun d0 => ?_) (fun d0 => ?_)
    · replace d0 := n_le_t (a := p + n) (b := lim) (by omega) (by omega) d0
      iterate 2 refine wp_step rfl rfl ?_
      refine wp_getg (v := (.int (nI p))) rfl h.1 (by decide) (congrArg Value.int h.2.2.2.1) ?_
      refine wp_step rfl rfl ?_
      refine wp_getg (v := (.int 0)) rfl h.1 (by decide) (congrArg Value.int h.2.2.2.2.2.1) ?_
      refine wp_if_f rfl rfl ?_
      iterate 3 refine wp_step rfl rfl ?_
      rw [nI_add]
      refine wp_putg rfl h.1 (by decide) rfl rfl ?_
      rw [mkG_i rfl]
      refine wp_vret rfl rfl (by
        obtain ⟨v, hv⟩ := hs (by omega)
        exact hret v (p + n) _ _ hv (fr_up (by simp)) (gf_up (gf_refl _ _) (by simp)) (mR_at h (fr_up (by simp)) (am_get_self h.1) (gf_up (gf_refl _ _) (by simp)) pk_us (by omega)))
    · replace d0 := n_le_f (a := p + n) (b := lim) (by omega) (by omega) d0
      iterate 3 refine wp_step rfl rfl ?_
      refine wp_getg (v := (.int (nI p))) rfl h.1 (by decide) (congrArg Value.int h.2.2.2.1) ?_
      refine wp_c0 rfl rfl (by decide) rfl (recv_ok h.1 rfl) rfl (q_mwrong h.1 h.2.2.2.2.2.1 (fun T2 hf2 h2 => ?_))
      iterate 2 refine wp_step rfl rfl ?_
      refine wp_getg (v := (.int (nI p))) rfl h2 (by decide) (congrArg Value.int ((pk_un (by decide)).trans ((pk_un (by decide)).trans h.2.2.2.1))) ?_
      refine wp_step rfl rfl ?_
      refine wp_getg (v := (.int 2)) rfl h2 (by decide) (congrArg Value.int pk_us) ?_
      refine wp_if_t rfl rfl ?_
      iterate 2 refine wp_step rfl rfl ?_
      rw [show nI p + Int32.ofInt 0 = nI p from Int32.add_zero _]
      refine wp_putg rfl h2 (by decide) rfl rfl ?_
      rw [mkG_i rfl]
      refine wp_vret rfl rfl (hbad _ _ (hno (by omega)) (fr_trans hf2 (fr_up (by simp))) (gf_up (gf_up (gf_up (gf_refl _ _) (by simp)) (by simp)) (by simp)) ⟨am_get_self h2, (pk_un (by decide)).trans pk_us, by decide, (pk_un (by decide)).trans ((pk_un (by decide)).trans pk_us)⟩ ⟨p, pk_us⟩)
  iterate 2 refine wp_step rfl rfl ?_
  refine wp_icmp rfl (fun c0 => ?_) (fun c0 => ?_)
  · replace c0 := n_ne_t (a := ty) (b := 10) (by omega) (by omega) c0
    iterate 2 refine wp_step rfl rfl ?_
    refine wp_icmp rfl (fun c1 => ?_) (fun c1 => ?_)
    · replace c1 := n_le_t (a := ty) (b := 3) (by omega) (by omega) c1
      iterate 2 refine wp_step rfl rfl ?_
      refine wp_icmp rfl (fun e8 => ?_) (fun e8 => ?_)
      · replace e8 := n_ne_t (a := ty) (b := 8) (by omega) (by omega) e8
        iterate 2 refine wp_step rfl rfl ?_
        refine wp_icmp rfl (fun e9 => ?_) (fun e9 => ?_)
        · replace e9 := n_ne_t (a := ty) (b := 9) (by omega) (by omega) e9
          iterate 2 refine wp_step rfl rfl ?_
          show wp X (d + 2) 109 55 [some (.ref 408), some (.int (nI ty)), some (.int (nI 1))] [] S Q
          exact fixed 1 (by omega) (fun g => by
            by_cases q2 : ty = 2
            · exact ⟨_, by unfold rdP; rw [if_pos q2, if_neg (by omega)]⟩
            · exact ⟨_, by unfold rdP; rw [if_neg q2, if_pos (by omega), if_neg (by omega)]⟩) (fun g => by
            by_cases q2 : ty = 2
            · unfold rdP; rw [if_pos q2, if_pos (by omega)]
            · unfold rdP; rw [if_neg q2, if_pos (by omega), if_pos (by omega)])
        · replace e9 := n_ne_f (a := ty) (b := 9) (by omega) (by omega) e9
          iterate 3 refine wp_step rfl rfl ?_
          show wp X (d + 2) 109 55 [some (.ref 408), some (.int (nI ty)), some (.int (nI 8))] [] S Q
          exact fixed 8 (by omega) (fun g => ⟨_, by unfold rdP; rw [if_neg (by omega), if_neg (by omega), if_neg (by omega), if_pos e9, if_neg (by omega)]⟩) (fun g => by unfold rdP; rw [if_neg (by omega), if_neg (by omega), if_neg (by omega), if_pos e9, if_pos (by omega)])
      · replace e8 := n_ne_f (a := ty) (b := 8) (by omega) (by omega) e8
        iterate 3 refine wp_step rfl rfl ?_
        show wp X (d + 2) 109 55 [some (.ref 408), some (.int (nI ty)), some (.int (nI 4))] [] S Q
        exact fixed 4 (by omega) (fun g => ⟨_, by unfold rdP; rw [if_neg (by omega), if_neg (by omega), if_pos e8, if_neg (by omega)]⟩) (fun g => by unfold rdP; rw [if_neg (by omega), if_neg (by omega), if_pos e8, if_pos (by omega)])
    · replace c1 := n_le_f (a := ty) (b := 3) (by omega) (by omega) c1
      iterate 2 refine wp_step rfl rfl ?_
      refine wp_icmp rfl (fun c2 => ?_) (fun c2 => ?_)
      · replace c2 := n_gt_t (a := ty) (b := 7) (by omega) (by omega) c2
        iterate 2 refine wp_step rfl rfl ?_
        refine wp_icmp rfl (fun e8 => ?_) (fun e8 => ?_)
        · replace e8 := n_ne_t (a := ty) (b := 8) (by omega) (by omega) e8
          iterate 2 refine wp_step rfl rfl ?_
          refine wp_icmp rfl (fun e9 => ?_) (fun e9 => ?_)
          · replace e9 := n_ne_t (a := ty) (b := 9) (by omega) (by omega) e9
            iterate 2 refine wp_step rfl rfl ?_
            show wp X (d + 2) 109 55 [some (.ref 408), some (.int (nI ty)), some (.int (nI 1))] [] S Q
            exact fixed 1 (by omega) (fun g => by
              by_cases q2 : ty = 2
              · exact ⟨_, by unfold rdP; rw [if_pos q2, if_neg (by omega)]⟩
              · exact ⟨_, by unfold rdP; rw [if_neg q2, if_pos (by omega), if_neg (by omega)]⟩) (fun g => by
              by_cases q2 : ty = 2
              · unfold rdP; rw [if_pos q2, if_pos (by omega)]
              · unfold rdP; rw [if_neg q2, if_pos (by omega), if_pos (by omega)])
          · replace e9 := n_ne_f (a := ty) (b := 9) (by omega) (by omega) e9
            iterate 3 refine wp_step rfl rfl ?_
            show wp X (d + 2) 109 55 [some (.ref 408), some (.int (nI ty)), some (.int (nI 8))] [] S Q
            exact fixed 8 (by omega) (fun g => ⟨_, by unfold rdP; rw [if_neg (by omega), if_neg (by omega), if_neg (by omega), if_pos e9, if_neg (by omega)]⟩) (fun g => by unfold rdP; rw [if_neg (by omega), if_neg (by omega), if_neg (by omega), if_pos e9, if_pos (by omega)])
        · replace e8 := n_ne_f (a := ty) (b := 8) (by omega) (by omega) e8
          iterate 3 refine wp_step rfl rfl ?_
          show wp X (d + 2) 109 55 [some (.ref 408), some (.int (nI ty)), some (.int (nI 4))] [] S Q
          exact fixed 4 (by omega) (fun g => ⟨_, by unfold rdP; rw [if_neg (by omega), if_neg (by omega), if_pos e8, if_neg (by omega)]⟩) (fun g => by unfold rdP; rw [if_neg (by omega), if_neg (by omega), if_pos e8, if_pos (by omega)])
      · replace c2 := n_gt_f (a := ty) (b := 7) (by omega) (by omega) c2
        refine wp_step rfl rfl ?_
        refine wp_c0 rfl rfl (by decide) rfl (recv_ok h.1 rfl) rfl (q_mcomp hb h (fun v q T2 J2 e2 hf2 hg2 h2 => ?_) (fun v T2 J2 e2 hf2 hg2 h2 hq2 => ?_))
        · iterate 2 refine wp_step rfl rfl ?_
          refine wp_vret rfl rfl (hret _ q T2 J2 (by unfold rdP; rw [if_neg (by omega), if_neg (by omega), if_neg (by omega), if_neg (by omega), e2]) hf2 hg2 h2)
        · iterate 2 refine wp_step rfl rfl ?_
          refine wp_vret rfl rfl (hbad T2 J2 (by unfold rdP; rw [if_neg (by omega), if_neg (by omega), if_neg (by omega), if_neg (by omega), e2]) hf2 hg2 h2 hq2)
  · replace c0 := n_ne_f (a := ty) (b := 10) (by omega) (by omega) c0
    omega
end MTEXT
