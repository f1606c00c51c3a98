/-! Recording.readChunk: the events -/
def rcI (S : am_S) (b : Nat → Nat) (tot R c s e : Nat) (tk fq : Int64) (nc : Int32) (τ : jTT) (τs : List jTT) (ci q n l : Nat) (A : jVA) (B : jCA) (E : jEA) (cps : List jCp) (ks : List jK) (evs : List jEv) : Prop :=
  (∃ pos lim idp, sK S b tot pos lim idp) ∧ vS S (R + 2) n l A ∧ am_get S c = some (ckC c (nI s) (nI e) tk fq (nI τ.length) nc) ∧ ckR S c ∧ ckT S c τ ∧ cpS S cps.length ks.length B ∧ cpD B cps ks ∧ cpOK cps ks ∧ ksG τ b tot A n l ks ∧ reS S R ci evs.length E ∧ evD E evs ∧ evs.length ≤ 60 ∧ evG τs b tot A n l evs ∧ n ≤ 1201 ∧ l ≤ q ∧ q ≤ e ∧ 4 * cps.length + 20 ≤ q ∧ ∀ (i : Nat) (y : jCp), cps[i]? = some y → y.1 < q
def rcX (S : am_S) (R tot : Nat) (k : Int32) (pl : Nat) : Prop := sX S tot k pl ∧ vSx S (R + 2) ∧ cpSh S ∧ reSh S R
theorem cpOK_add {cps : List jCp} {ks ks' : List jK} {q dl dp : Nat} (h : cpOK cps ks) (hl : cps.length < 239) (hk : ks.length ≤ ks'.length) (h40 : ks'.length ≤ 40) (hq : q < 960) (hdl : dl < 2 ^ 31) (hdp : dp ≤ 960) (hp : ∀ (i : Nat) (y : jCp), cps[i]? = some y → y.1 < q) : cpOK (cps ++ [(q, dl, dp, ks'.length)]) ks' := by
  obtain ⟨h1, h2, h3, h4⟩ := h
  refine ⟨by rw [List.length_append]; simp; omega, h40, fun i y hy => ?_, fun i j x y hij hx hy => ?_⟩
  · rcases at_app hy with ⟨e1, e2⟩ | ⟨e1, e2⟩
    · have := h3 i y e2; omega
    · subst e2; exact ⟨hq, hdl, hdp, Nat.le_refl _⟩
  · rcases at_app hy with ⟨e1, e2⟩ | ⟨e1, e2⟩
    · rcases at_app hx with ⟨d1, d2⟩ | ⟨d1, d2⟩
      · exact h4 i j x y hij d2 e2
      · omega
    · rcases at_app hx with ⟨d1, d2⟩ | ⟨d1, d2⟩
      · subst e2
        exact ⟨hp i x d2, by have := (h3 i x d2).2.2.2; dsimp only; omega⟩
      · omega
section CHUNK
variable {X : Nat × (Nat → Int32)} {d : Nat} {Q : am_R → Prop} {b : Nat → Nat} {tot R c s e ci : Nat} {tk fq : Int64} {nc : Int32} {τ : jTT} {τs : List jTT}
set_option maxHeartbeats 4000000 in
theorem rc_loop (hb : ∀ j, b j < 256) (hwf : wfT τ) (hfh : fht τ) (hRc : R + 11 ≤ c) (hR11 : 11 ≤ R) (hc9 : c < 800000) (het : e ≤ tot) (ht9 : tot ≤ 960) (hτs : τs[ci]? = some τ) :
    ∀ (f i q n l : Nat) (A : jVA) (B : jCA) (E : jEA) (cps : List jCp) (ks : List jK) (evs : List jEv) (x7 : Option Value) (S : am_S), i + f = 960 → rcI S b tot R c s e tk fq nc τ τs ci q n l A B E cps ks evs →
      (∀ n' l' A' B' E' cps' ks' evs' q' y5 y6 y7 T, rdEs τ b ci e f q (n, cps, ks, evs) = .inr (n', cps', ks', evs') → fr [1, 3, 4, 5, 6, 7, 8, 9, 10, R, R + 2, R + 2 + 1, R + 2 + 2, R + 2 + 3, R + 2 + 4, R + 2 + 5, R + 8, R + 9, R + 10] S T → rcI T b tot R c s e tk fq nc τ τs ci q' n' l' A' B' E' cps' ks' evs' → agr A A' n l → n ≤ n' → l ≤ l' → wp X (d + 27) 35 141 [some (.ref R), some (.ref 1), some (.ref 3), some (.int (nI s)), some (.ref c), y5, y6, y7] [] T Q) →
      (∀ k pl T, rdEs τ b ci e f q (n, cps, ks, evs) = .inl (k, pl) → fr [1, 3, 4, 5, 6, 7, 8, 9, 10, R, R + 2, R + 2 + 1, R + 2 + 2, R + 2 + 3, R + 2 + 4, R + 2 + 5, R + 8, R + 9, R + 10] S T → rcX T R tot k pl → Q (.inr IAE, am_thrown T)) →
      wp X (d + 27) 35 52 [some (.ref R), some (.ref 1), some (.ref 3), some (.int (nI s)), some (.ref c), some (.int (nI q)), some (.int (nI i)), x7] [] S Q := by
  intro f
  induction f with
  | zero =>
    intro i q n l A B E cps ks evs x7 S hi hI hret hthr
    iterate 2 refine wp_step rfl rfl ?_
    refine wp_icmp rfl (fun c0 => ?_) (fun c0 => ?_)
    · replace c0 := n_ge_t (a := i) (b := 960) (by omega) (by omega) c0
      exact hret n l A B E cps ks evs q _ _ _ S rfl (fr_refl _ _) hI (agr_refl _ _ _) (Nat.le_refl _) (Nat.le_refl _)
    · replace c0 := n_ge_f (a := i) (b := 960) (by omega) (by omega) c0
      omega
  | succ f ihm =>
    intro i q n l A B E cps ks evs x7 S hi hI hret hthr
    obtain ⟨⟨pos, lim, idp, hk⟩, hv, hcc, hR, hT, hc, hD, hO, hG, hr, hE, h60, hEG, hn, hl, hqe, h4, hpl⟩ := id hI
    iterate 2 refine wp_step rfl rfl ?_
    refine wp_icmp rfl (fun c0 => ?_) (fun c0 => ?_)
    · replace c0 := n_ge_t (a := i) (b := 960) (by omega) (by omega) c0
      omega
    · replace c0 := n_ge_f (a := i) (b := 960) (by omega) (by omega) c0
      iterate 2 refine wp_step rfl rfl ?_
      refine wp_getg rfl hcc (by decide) rfl ?_
      refine wp_icmp rfl (fun c1 => ?_) (fun c1 => ?_)
      · replace c1 := n_ge_t (a := q) (b := e) (by omega) (by omega) c1
        exact hret n l A B E cps ks evs q _ _ _ S (by unfold rdEs; rw [if_pos c1]) (fr_refl _ _) hI (agr_refl _ _ _) (Nat.le_refl _) (Nat.le_refl _)
      · replace c1 := n_ge_f (a := q) (b := e) (by omega) (by omega) c1
        have hn1 : ¬ e ≤ q := by omega
        iterate 3 refine wp_step rfl rfl ?_
        refine wp_getg rfl hcc (by decide) rfl ?_
        refine wp_c0 rfl rfl (by decide) rfl (recv_ok hk.1 rfl) rfl (q_head hk hqe het (fun len id p1 p2 T hh hf1 hk1 => ?_) (fun k pl T hh hf1 hx1 => ?_))
        · have hho := hd_ok hh
          have hv1 := vS_fr hv hf1 (fun j hj => by simp only [List.mem_cons, List.not_mem_nil, or_false] at hj; omega)
          have hc1 := cpS_fr hc hf1 (fun j hj => by simp only [List.mem_cons, List.not_mem_nil, or_false] at hj; omega)
          have hr1 := reS_fr hr hf1 (fun j hj => by simp only [List.mem_cons, List.not_mem_nil, or_false] at hj; omega)
          have hO1 : ckO S c τ := ⟨⟨_, _, _, _, _, hcc⟩, hR, hT⟩
          have hO1 := ckO_fr hO1 hwf.1 hf1 (fun j hj => by simp only [List.mem_cons, List.not_mem_nil, or_false] at hj; omega)
          have hf1J := fr_mono (ks := [1, 3, 4, 5, 6, 7, 8, 9, 10, R, R + 2, R + 2 + 1, R + 2 + 2, R + 2 + 3, R + 2 + 4, R + 2 + 5, R + 8, R + 9, R + 10]) hf1 (fun j hj => by simp only [List.mem_cons, List.not_mem_nil, or_false, List.mem_range'_1] at hj ⊢; omega)
          have K : ∀ n' l' A' B' E' cps' ks' evs' T9 pos9, rdE1 τ b ci e q (n, cps, ks, evs) = .inr (q + len, n', cps', ks', evs') → fr [1, 3, 4, 5, 6, 7, 8, 9, 10, R, R + 2, R + 2 + 1, R + 2 + 2, R + 2 + 3, R + 2 + 4, R + 2 + 5, R + 8, R + 9, R + 10] S T9 → sK T9 b tot pos9 (q + len) p1 → rcI T9 b tot R c s e tk fq nc τ τs ci (q + len) n' l' A' B' E' cps' ks' evs' → agr A A' n l → n ≤ n' → l ≤ l' → wp X (d + 27) 35 129 [some (.ref R), some (.ref 1), some (.ref 3), some (.int (nI s)), some (.ref c), some (.int (nI q)), some (.int (nI i)), some (.int (nI id))] [] T9 Q := by
            intro n' l' A' B' E' cps' ks' evs' T9 pos9 e9 hf9 hk9 hI9 ha9 hn9 hl9
            refine wp_step rfl rfl ?_
            refine wp_getg rfl hk9.1 (by decide) rfl ?_
            iterate 3 refine wp_step rfl rfl ?_
            rw [show nI i + Int32.ofInt 1 = nI (i + 1) from nI_add i 1]
            refine ihm (i + 1) (q + len) n' l' A' B' E' cps' ks' evs' _ T9 (by omega) hI9 (fun n2 l2 A2 B2 E2 cps2 ks2 evs2 q2 y5 y6 y7 T2 e2 hf2 hI2 ha2 hn2 hl2 => ?_) (fun k pl T2 e2 hf2 hx2 => ?_)
            · exact hret n2 l2 A2 B2 E2 cps2 ks2 evs2 q2 y5 y6 y7 T2 (by unfold rdEs; rw [if_neg hn1, e9]; exact e2) (fr_trans hf9 hf2) hI2 (agr_trans ha9 ha2 hn9 hl9) (by omega) (by omega)
            · exact hthr k pl T2 (by unfold rdEs; rw [if_neg hn1, e9]; exact e2) (fr_trans hf9 hf2) hx2
          refine wp_step rfl rfl ?_
          show wp X _ 35 83 [some (.ref R), some (.ref 1), some (.ref 3), some (.int (nI s)), some (.ref c), some (.int (nI q)), some (.int (nI i)), some (.int (nI id))] [] T Q
          iterate 2 refine wp_step rfl rfl ?_
          refine wp_icmp rfl (fun c2 => ?_) (fun c2 => ?_)
          · replace c2 := n_ne_t (a := id) (b := 1) (by omega) (by omega) c2
            refine wp_step rfl rfl ?_
            refine wp_if rfl (fun c3 => ?_) (fun c3 => ?_)
            · replace c3 := z_eq_t (a := id) (by omega) c3
              refine K n l A B E cps ks evs T p2 (by unfold rdE1; rw [hh]; dsimp only; rw [if_neg c2, if_pos c3]) hf1J hk1 ⟨⟨_, _, _, hk1⟩, hv1, by rw [fr_get hf1 (by simp only [List.mem_cons, List.not_mem_nil, or_false, List.mem_range'_1]; omega)]; exact hcc, ckR_fr hR hf1 (by simp only [List.mem_cons, List.not_mem_nil, or_false, List.mem_range'_1]; omega), ckT_fr hT hwf.1 hf1 (fun j hj => by simp only [List.mem_cons, List.not_mem_nil, or_false] at hj; omega), hc1, hD, hO, hG, hr1, hE, h60, hEG, hn, by omega, by omega, by omega, fun i y hy => by have := hpl i y hy; omega⟩ (agr_refl _ _ _) (Nat.le_refl _) (Nat.le_refl _)
            · replace c3 := z_eq_f (a := id) (by omega) c3
              iterate 5 refine wp_step rfl rfl ?_
              refine wp_c0 rfl rfl (by decide) rfl (recv_ok hr1.1 rfl) rfl (q_readEvent (d := d) hb hwf hfh hRc hR11 hc9 (by omega) hk1 hv1 hO1 hr1 h60 hn (by omega) (fun tk2 p3 p4 n2 l2 A2 T2 e2 hf2 gk gv ha2 hl2 hd2 hkd hnum hr2 => ?_) (fun k pl T2 e2 hf2 hx2 hs2 hrs2 => ?_))
              · have hle2 := DV_le _ _ _ _ _ _ _ _ _ hd2
                have htop := (DV_top hd2).1
                have gk9 := gk.2.2
                have hc2 := cpS_fr hc1 hf2 (fun j hj => by simp only [List.mem_cons, List.not_mem_nil, or_false] at hj; omega)
                refine wp_step rfl rfl ?_
                refine wp_c0 rfl rfl (by decide) rfl (recv_ok gk.1 rfl) rfl (q_eventEnd gk (fun hle => ?_) (fun T3 hlt hf3 hx3 => ?_))
                · have hfB := fr_trans hf1J (fr_mono (ks := [1, 3, 4, 5, 6, 7, 8, 9, 10, R, R + 2, R + 2 + 1, R + 2 + 2, R + 2 + 3, R + 2 + 4, R + 2 + 5, R + 8, R + 9, R + 10]) hf2 (fun j hj => by simp only [List.mem_cons, List.not_mem_nil, or_false, List.mem_range'_1] at hj ⊢; omega))
                  have h59 : evs.length ≠ 60 := by
                    intro h9
                    unfold rdV at e2
                    rw [if_neg (by rw [kdb_iff.mpr hkd]; decide), if_pos h9] at e2
                    cases e2
                  have hlen : (evs ++ [((ci, q, tk2, id, p3, n) : jEv)]).length = evs.length + 1 := by simp
                  refine K n2 l2 A2 B _ cps ks (evs ++ [(ci, q, tk2, id, p3, n)]) T2 p4 (by unfold rdE1; rw [hh]; dsimp only; rw [if_neg c2, if_neg c3, e2]; dsimp only; rw [if_neg (by omega)]) hfB gk ⟨⟨_, _, _, gk⟩, gv, by rw [fr_get hfB (by simp only [List.mem_cons, List.not_mem_nil, or_false, List.mem_range'_1]; omega)]; exact hcc, ckR_fr hR hfB (by simp only [List.mem_cons, List.not_mem_nil, or_false, List.mem_range'_1]; omega), ckT_fr hT hwf.1 hfB (fun j hj => by simp only [List.mem_cons, List.not_mem_nil, or_false] at hj; omega), hc2, hD, hO, ksG_agr hG ha2 (by omega) hle2.2, by rw [hlen]; exact hr2, evD_add hE (ci, q, tk2, id, p3, n), by rw [hlen]; omega, ?_, htop, by omega, by omega, by omega, fun i y hy => by have := hpl i y hy; omega⟩ ha2 (by omega) hle2.2
                  intro y hy
                  rcases List.mem_append.mp hy with h9 | h9
                  · exact evG_agr hEG ha2 (by omega) hle2.2 y h9
                  · rw [List.mem_singleton] at h9
                    subst h9
                    exact ⟨τ, hτs, ⟨q + len, l, p4, n2, l2, by omega, Nat.le_refl _, Nat.le_refl _, hd2⟩, hkd, e, len, p1, p2, het, hh, hnum⟩
                · exact hthr 5 p4 T3 (by unfold rdEs; rw [if_neg hn1]; unfold rdE1; rw [hh]; dsimp only; rw [if_neg c2, if_neg c3, e2]; dsimp only; rw [if_pos hlt]) (fr_trans hf1J (fr_trans (fr_mono hf2 (fun j hj => by simp only [List.mem_cons, List.not_mem_nil, or_false, List.mem_range'_1] at hj ⊢; omega)) (fr_mono hf3 (fun j hj => by simp only [List.mem_cons, List.not_mem_nil, or_false, List.mem_range'_1] at hj ⊢; omega)))) ⟨hx3, ⟨_, _, _, vS_fr gv hf3 (fun j hj => by simp only [List.mem_cons, List.not_mem_nil, or_false] at hj; omega)⟩, ⟨_, _, _, cpS_fr hc2 hf3 (fun j hj => by simp only [List.mem_cons, List.not_mem_nil, or_false] at hj; omega)⟩, ⟨_, _, _, reS_fr hr2 hf3 (fun j hj => by simp only [List.mem_cons, List.not_mem_nil, or_false] at hj; omega)⟩⟩
              · exact hthr k pl T2 (by unfold rdEs; rw [if_neg hn1]; unfold rdE1; rw [hh]; dsimp only; rw [if_neg c2, if_neg c3, e2]) (fr_trans hf1J (fr_mono hf2 (fun j hj => by simp only [List.mem_cons, List.not_mem_nil, or_false, List.mem_range'_1] at hj ⊢; omega))) ⟨hx2, hs2, ⟨_, _, _, cpS_fr hc1 hf2 (fun j hj => by simp only [List.mem_cons, List.not_mem_nil, or_false] at hj; omega)⟩, hrs2⟩
          · replace c2 := n_ne_f (a := id) (b := 1) (by omega) (by omega) c2
            iterate 4 refine wp_step rfl rfl ?_
            refine wp_getg rfl hr1.1 (by decide) rfl ?_
            refine wp_step rfl rfl ?_
            refine wp_c0 rfl rfl (by decide) rfl (recv_ok hc1.1 rfl) rfl (q_cpRead (d := d) hb hwf hfh (by omega) (by omega) hc9 (by omega) ⟨hk1, hv1, hO1, hc1, hD, hO.2.1, hG, hn, by omega⟩ (fun dl p3 n2 l2 A2 B2 ks2 T2 e2 hf2 hI2 ha2 hn2 hl2 => ?_) (fun k pl T2 e2 hf2 hx2 => ?_))
            · obtain ⟨gk, gv, gO, gc, gD, g40, gG, gn, gl⟩ := hI2
              have hcl := rdCp_le e2
              have gk9 := gk.2.2
              have hr2 := reS_fr hr1 hf2 (fun j hj => by simp only [List.mem_cons, List.not_mem_nil, or_false] at hj; omega)
              refine wp_step rfl rfl ?_
              refine wp_c0 rfl rfl (by decide) rfl (recv_ok gk.1 rfl) rfl (q_eventEnd gk (fun hle => ?_) (fun T3 hlt hf3 hx3 => ?_))
              · refine wp_step rfl rfl ?_
                have hfB := fr_trans hf1J (fr_mono (ks := [1, 3, 4, 5, 6, 7, 8, 9, 10, R, R + 2, R + 2 + 1, R + 2 + 2, R + 2 + 3, R + 2 + 4, R + 2 + 5, R + 8, R + 9, R + 10]) hf2 (fun j hj => by simp only [List.mem_cons, List.not_mem_nil, or_false, List.mem_range'_1] at hj ⊢; omega))
                refine K n2 l2 A2 B2 E (cps ++ [(q, dl, p2, ks2.length)]) ks2 evs T2 p3 (by unfold rdE1; rw [hh]; dsimp only; rw [if_pos c2, e2]; dsimp only; rw [if_neg (by omega)]) hfB gk ⟨⟨_, _, _, gk⟩, gv, by rw [fr_get hfB (by simp only [List.mem_cons, List.not_mem_nil, or_false, List.mem_range'_1]; omega)]; exact hcc, ckR_fr hR hfB (by simp only [List.mem_cons, List.not_mem_nil, or_false, List.mem_range'_1]; omega), ckT_fr hT hwf.1 hfB (fun j hj => by simp only [List.mem_cons, List.not_mem_nil, or_false] at hj; omega), gc, gD, cpOK_add hO (by omega) hcl.2.1 g40 (by omega) hcl.2.2 (by omega) hpl, gG, hr2, hE, h60, evG_agr hEG ha2 hn2 hl2, gn, by omega, by omega, by rw [List.length_append]; simp; omega, fun i y hy => ?_⟩ ha2 hn2 hl2
                rcases at_app hy with ⟨h1, h2⟩ | ⟨h1, h2⟩
                · have := hpl i y h2; omega
                · subst h2; dsimp only; omega
              · exact hthr 5 p3 T3 (by unfold rdEs; rw [if_neg hn1]; unfold rdE1; rw [hh]; dsimp only; rw [if_pos c2, e2]; dsimp only; rw [if_pos hlt]) (fr_trans hf1J (fr_trans (fr_mono hf2 (fun j hj => by simp only [List.mem_cons, List.not_mem_nil, or_false, List.mem_range'_1] at hj ⊢; omega)) (fr_mono hf3 (fun j hj => by simp only [List.mem_cons, List.not_mem_nil, or_false, List.mem_range'_1] at hj ⊢; omega)))) ⟨hx3, ⟨_, _, _, vS_fr gv hf3 (fun j hj => by simp only [List.mem_cons, List.not_mem_nil, or_false] at hj; omega)⟩, ⟨_, _, _, cpS_fr gc hf3 (fun j hj => by simp only [List.mem_cons, List.not_mem_nil, or_false] at hj; omega)⟩, ⟨_, _, _, reS_fr hr2 hf3 (fun j hj => by simp only [List.mem_cons, List.not_mem_nil, or_false] at hj; omega)⟩⟩
            · exact hthr k pl T2 (by unfold rdEs; rw [if_neg hn1]; unfold rdE1; rw [hh]; dsimp only; rw [if_pos c2, e2]) (fr_trans hf1J (fr_mono hf2 (fun j hj => by simp only [List.mem_cons, List.not_mem_nil, or_false, List.mem_range'_1] at hj ⊢; omega))) ⟨hx2.1, hx2.2.1, hx2.2.2, ⟨_, _, _, reS_fr hr1 hf2 (fun j hj => by simp only [List.mem_cons, List.not_mem_nil, or_false] at hj; omega)⟩⟩
        · exact hthr k pl T (by unfold rdEs; rw [if_neg hn1]; unfold rdE1; rw [hh]) (fr_mono hf1 (fun j hj => by simp only [List.mem_cons, List.not_mem_nil, or_false, List.mem_range'_1] at hj ⊢; omega)) ⟨hx1, ⟨_, _, _, vS_fr hv hf1 (fun j hj => by simp only [List.mem_cons, List.not_mem_nil, or_false] at hj; omega)⟩, ⟨_, _, _, cpS_fr hc hf1 (fun j hj => by simp only [List.mem_cons, List.not_mem_nil, or_false] at hj; omega)⟩, ⟨_, _, _, reS_fr hr hf1 (fun j hj => by simp only [List.mem_cons, List.not_mem_nil, or_false] at hj; omega)⟩⟩
end CHUNK
