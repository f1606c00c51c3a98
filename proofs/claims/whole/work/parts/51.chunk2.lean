/-! Recording.readChunk, in full -/
theorem chn_mem {cps : List jCp} {ks : List jK} : ∀ {f i : Nat} {L : List jK}, chn cps ks f i = .inr L → ∀ k, k ∈ L → k ∈ ks := by
  have sg : ∀ i k, k ∈ seg cps ks i → k ∈ ks := fun i k h => List.mem_of_mem_take (List.mem_of_mem_drop h)
  intro f
  induction f with
  | zero => intro i L h k hk; cases h; cases hk
  | succ f ih =>
    intro i L h k hk
    unfold chn at h
    split at h
    · cases h; cases hk
    · split at h
      · cases h; exact sg _ _ hk
      · split at h
        · cases h
        · split at h
          · cases h
          · split at h
            · cases h
            · rename_i L2 e2
              cases h
              rcases List.mem_append.mp hk with h9 | h9
              · exact sg _ _ h9
              · exact ih e2 k h9
theorem lnk_mem {b : Nat → Nat} {s : Nat} {cps : List jCp} {ks L : List jK} (h : lnk b s cps ks = .inr L) : ∀ k, k ∈ L → k ∈ ks := by
  unfold lnk at h
  split at h
  · cases h; intro k hk; cases hk
  · split at h
    · cases h
    · exact chn_mem h
/-- a chunk that was read, at C -/
def ckF (S : am_S) (b : Nat → Nat) (C : Nat) (ck : jCk) : Prop := am_get S C = some (ckC C (nI ck.1) (nI ck.2.1) (lN (w4 b (ck.1 + 12))) (lN (w4 b (ck.1 + 16))) (nI ck.2.2.1.length) (nI ck.2.2.2.length)) ∧ ckR S C ∧ ckT S C ck.2.2.1 ∧ ∃ K, ckK S C K ∧ ckKD K ck.2.2.2
/-- what is true of it -/
def ckP (b : Nat → Nat) (tot : Nat) (A : jVA) (n l : Nat) (ck : jCk) : Prop := ck.1 + 20 ≤ ck.2.1 ∧ ck.2.1 ≤ tot ∧ wfT ck.2.2.1 ∧ fht ck.2.2.1 ∧ nocyc ck.2.2.1 ∧ ksG ck.2.2.1 b tot A n l ck.2.2.2 ∧ ck.2.2.2.length ≤ 40 ∧ w4 b (ck.1 + 16) ≠ 0
def reF (S : am_S) (R : Nat) : Prop := ∃ F, am_get S (R + 1) = some (rA 4 4 F) ∧ ∀ c, c < 4 → F c = some (R + 11 + 45 * c)
def ckA (S : am_S) (C : Nat) : Prop := ckSh S C ∧ ckKs S C
/-- a recording, whatever it holds -/
def reW (S : am_S) (R : Nat) : Prop := reSh S R ∧ vSx S (R + 2) ∧ reF S R ∧ ∀ c, c < 4 → ckA S (R + 11 + 45 * c)
abbrev cksT (cks : List jCk) : List jTT := cks.map (fun ck => ck.2.2.1)
/-- a recording that holds re -/
def reO (S : am_S) (b : Nat → Nat) (tot R l : Nat) (A : jVA) (E : jEA) (re : jRe) : Prop := vS S (R + 2) re.1 l A ∧ reS S R re.2.2.length re.2.1.length E ∧ evD E re.2.1 ∧ re.2.1.length ≤ 60 ∧ evG (cksT re.2.2) b tot A re.1 l re.2.1 ∧ reF S R ∧ (∀ (c : Nat) (ck : jCk), re.2.2[c]? = some ck → ckF S b (R + 11 + 45 * c) ck) ∧ (∀ c, c < 4 → ckA S (R + 11 + 45 * c)) ∧ re.2.2.length ≤ 4 ∧ re.1 ≤ 1201 ∧ (∀ ck, ck ∈ re.2.2 → ckP b tot A re.1 l ck) ∧ l ≤ 960
theorem reF_fr {js : List Nat} {S T : am_S} {R : Nat} (h : reF S R) (hf : fr js S T) (hj : R + 1 ∉ js) : reF T R := by
  obtain ⟨F, h1, h2⟩ := h
  exact ⟨F, by rw [fr_get hf hj]; exact h1, h2⟩
theorem ckA_fr {js : List Nat} {S T : am_S} {C : Nat} (h : ckA S C) (hf : fr js S T) (hj : ∀ j, j ∈ js → j < C ∨ C + 45 ≤ j) : ckA T C := by
  obtain ⟨⟨⟨st, en, tk, fq, nt, nc, h0⟩, h1, h2⟩, ⟨K, h3⟩⟩ := h
  exact ⟨⟨⟨st, en, tk, fq, nt, nc, by rw [fr_get hf (fun h9 => by have := hj _ h9; omega)]; exact h0⟩, ckR_fr h1 hf (fun h9 => by have := hj _ h9; omega), allS_fr h2 hf (fun j h9 => by have := hj _ h9; omega)⟩, ⟨K, ckK_fr h3 hf (fun j h9 => by have := hj _ h9; omega)⟩⟩
theorem ckF_fr {js : List Nat} {S T : am_S} {b : Nat → Nat} {C : Nat} {ck : jCk} (h : ckF S b C ck) (hl : ck.2.2.1.length ≤ 10) (hf : fr js S T) (hj : ∀ j, j ∈ js → j < C ∨ C + 45 ≤ j) : ckF T b C ck := by
  obtain ⟨h0, h1, h2, K, h3, h4⟩ := h
  exact ⟨by rw [fr_get hf (fun h9 => by have := hj _ h9; omega)]; exact h0, ckR_fr h1 hf (fun h9 => by have := hj _ h9; omega), ckT_fr h2 hl hf (fun j h9 => by have := hj _ h9; omega), K, ckK_fr h3 hf (fun j h9 => by have := hj _ h9; omega), h4⟩
theorem ckP_agr {b : Nat → Nat} {tot : Nat} {A A' : jVA} {n l n' l' : Nat} {ck : jCk} (h : ckP b tot A n l ck) (ha : agr A A' n l) (hn : n ≤ n') (hl : l ≤ l') : ckP b tot A' n' l' ck := by
  obtain ⟨h1, h2, h3, h4, h5, h6, h7⟩ := h
  exact ⟨h1, h2, h3, h4, h5, ksG_agr h6 ha hn hl, h7⟩
section CHUNK2
variable {X : Nat × (Nat → Int32)} {d : Nat} {Q : am_R → Prop} {b : Nat → Nat} {tot R s : Nat}
theorem q_cpClear {S : am_S} {n m : Nat} {B : jCA} (h : cpS S n m B) (hq : ∀ T, fr [3] S T → cpS T 0 0 B → Q (.inl none, T)) : ev X (d + 1) 1 [.ref 3] S Q := by
  refine ev_wp (L0 := [some (.ref 3)]) (Nat.le_of_ble_eq_true rfl) rfl ?_
  iterate 2 refine wp_step rfl rfl ?_
  refine wp_putg rfl h.1 (by decide) rfl rfl ?_
  rw [show va_up (cpG (nI n) (nI m)) 0 (.int (Int32.ofInt 0)) = cpG (nI 0) (nI m) from cpG_0]
  iterate 2 refine wp_step rfl rfl ?_
  refine wp_putg rfl (am_get_self h.1) (by decide) rfl rfl ?_
  rw [am_upd_upd, show va_up (cpG (nI 0) (nI m)) 5 (.int (Int32.ofInt 0)) = cpG (nI 0) (nI 0) from cpG_5]
  refine wp_vret rfl rfl (hq _ (fr_up (by simp)) (cpS_3 h 0 0))
set_option maxHeartbeats 4000000 in
theorem q_readChunk {pos lim idp l : Nat} {A : jVA} {E : jEA} {re : jRe} {S : am_S} (hb : ∀ j, b j < 256) (hR11 : 11 ≤ R) (hR9 : R < 700000) (hJ : sJ S b tot pos lim idp) (hcp : cpSh S) (hO : reO S b tot R l A E re) (hls : l ≤ s) (hst : s ≤ tot)
    (hret : ∀ e re' l' A' E' T, rdCk b tot s re = .inr (e, re') → fr ([1, 3, 4, 5, 6, 7, 8, 9, 10] ++ List.range' R 191) S T → (∃ pos lim idp, sK T b tot pos lim idp) → cpSh T → reO T b tot R l' A' E' re' → l' ≤ e → e ≤ tot → s < e → Q (.inl (some (.int (nI e))), T))
    (hthr : ∀ k pl T, rdCk b tot s re = .inl (k, pl) → fr ([1, 3, 4, 5, 6, 7, 8, 9, 10] ++ List.range' R 191) S T → sX T tot k pl → cpSh T → reW T R → Q (.inr IAE, am_thrown T)) :
    ev X (d + 28) 35 [.ref R, .ref 1, .ref 3, .int (nI s)] S Q := by
  refine ev_wp (L0 := [some (.ref R), some (.ref 1), some (.ref 3), some (.int (nI s)), none, none, none, none]) (Nat.le_of_ble_eq_true rfl) rfl ?_
  obtain ⟨n, evs, cks⟩ := re
  obtain ⟨hv, hr, hE, h60, hEG, hF, hCF, hCA, h4, hn, hCP, hl960⟩ := id hO
  dsimp only at hv hr hE h60 hEG hF hCF hCA h4 hn hCP
  obtain ⟨nc0, mc0, B0, hc⟩ := id hcp
  have hJ9 := hJ.2.2
  refine wp_step rfl rfl ?_
  refine wp_getg rfl hr.1 (by decide) rfl ?_
  refine wp_step rfl rfl ?_
  refine wp_icmp rfl (fun c0 => ?_) (fun c0 => ?_)
  · replace c0 := n_ne_t (a := cks.length) (b := 4) (by omega) (by omega) c0
    have hc4 : cks.length < 4 := by omega
    obtain ⟨F, hF1, hF2⟩ := id hF
    have hshape := hCA cks.length hc4
    obtain ⟨⟨⟨st, en, tk, fq, nt, nc, hcc⟩, hcR, hcA⟩, ⟨K, hcK⟩⟩ := hshape
    generalize hC : R + 11 + 45 * cks.length = C at hcc hcR hcA hcK
    have hCeq := hF2 cks.length hc4
    rw [hC] at hCeq
    refine wp_step rfl rfl ?_
    refine wp_getg rfl hr.1 (by decide) rfl ?_
    refine wp_step rfl rfl ?_
    refine wp_getg rfl hr.1 (by decide) rfl ?_
    refine wp_aald rfl (by omega) hF1 (by decide) (am_in_nI (by omega) (by decide)) ?_
    rw [nI_clamp (by omega)]
    rw [hCeq]
    iterate 4 refine wp_step rfl rfl ?_
    show wp X _ 35 30 [some (.ref R), some (.ref 1), some (.ref 3), some (.int (nI s)), some (.ref C), none, none, none] [.int (nI s), .ref 1, .ref C] S Q
    refine wp_c0 rfl rfl (by decide) rfl (recv_ok hcc rfl) rfl (q_readHeaderJ hb hJ hcc hst (by omega) (by omega) (fun z T eH hf1 hcc1 => ?_) (fun k pl T eH hf1 hx1 hs1 => ?_))
    · have hz := rdH_ok eH
      have hJ1 := sJ_fr hJ hf1 (by simp only [List.mem_append, List.mem_cons, List.not_mem_nil, or_false, List.mem_range'_1]; omega) (by simp only [List.mem_append, List.mem_cons, List.not_mem_nil, or_false, List.mem_range'_1]; omega)
      have hc1 := cpS_fr hc hf1 (fun j hj => by simp only [List.mem_append, List.mem_cons, List.not_mem_nil, or_false, List.mem_range'_1] at hj; omega)
      have hv1 := vS_fr hv hf1 (fun j hj => by simp only [List.mem_append, List.mem_cons, List.not_mem_nil, or_false, List.mem_range'_1] at hj; omega)
      have hr1 := reS_fr hr hf1 (fun j hj => by simp only [List.mem_append, List.mem_cons, List.not_mem_nil, or_false, List.mem_range'_1] at hj; omega)
      have hF1' := reF_fr hF hf1 (by simp only [List.mem_append, List.mem_cons, List.not_mem_nil, or_false, List.mem_range'_1]; omega)
      have hcR1 := ckR_fr hcR hf1 (by simp only [List.mem_append, List.mem_cons, List.not_mem_nil, or_false, List.mem_range'_1]; omega)
      have hcA1 := allS_fr hcA hf1 (fun j hj => by simp only [List.mem_append, List.mem_cons, List.not_mem_nil, or_false, List.mem_range'_1] at hj; omega)
      have hcK1 := ckK_fr hcK hf1 (fun j hj => by simp only [List.mem_append, List.mem_cons, List.not_mem_nil, or_false, List.mem_range'_1] at hj; omega)
      have hf1J : fr ([1, 3, 4, 5, 6, 7, 8, 9, 10] ++ List.range' R 191) S T := fr_mono hf1 (fun j hj => by simp only [List.mem_append, List.mem_cons, List.not_mem_nil, or_false, List.mem_range'_1] at hj ⊢; omega)
      iterate 2 refine wp_step rfl rfl ?_
      refine wp_c0 rfl rfl (by decide) rfl (recv_ok hcc1 rfl) rfl (q_readMetadataJ hb hJ1 (by omega) (by omega) hcc1 hcR1 hcA1 (by omega) (by omega) (fun τ T2 eM hwf hfh hcyc hf2 hk2 hcc2 hcR2 hcT2 hcA2 => ?_) (fun k pl T2 eM hf2 hx2 hs2 => ?_))
      · obtain ⟨pos2, lim2, idp2, hk2⟩ := hk2
        have hf2J := fr_trans hf1J (fr_mono (ks := ([1, 3, 4, 5, 6, 7, 8, 9, 10] ++ List.range' R 191)) hf2 (fun j hj => by simp only [List.mem_append, List.mem_cons, List.not_mem_nil, or_false, List.mem_range'_1] at hj ⊢; omega))
        have hfO : fr ([1] ++ List.range' C 45) S T2 := fr_trans (fr_mono hf1 (fun j hj => by simp only [List.mem_append, List.mem_cons, List.not_mem_nil, or_false, List.mem_range'_1] at hj ⊢; omega)) (fr_mono hf2 (fun j hj => by simp only [List.mem_append, List.mem_cons, List.not_mem_nil, or_false, List.mem_range'_1] at hj ⊢; omega))
        have hc2 := cpS_fr hc1 hf2 (fun j hj => by simp only [List.mem_append, List.mem_cons, List.not_mem_nil, or_false, List.mem_range'_1] at hj; omega)
        have hv2 := vS_fr hv1 hf2 (fun j hj => by simp only [List.mem_append, List.mem_cons, List.not_mem_nil, or_false, List.mem_range'_1] at hj; omega)
        have hr2 := reS_fr hr1 hf2 (fun j hj => by simp only [List.mem_append, List.mem_cons, List.not_mem_nil, or_false, List.mem_range'_1] at hj; omega)
        have hF2' := reF_fr hF1' hf2 (by simp only [List.mem_append, List.mem_cons, List.not_mem_nil, or_false, List.mem_range'_1]; omega)
        have hcK2 := ckK_fr hcK1 hf2 (fun j hj => by simp only [List.mem_append, List.mem_cons, List.not_mem_nil, or_false, List.mem_range'_1] at hj; omega)
        have hlen2 := hwf.1
        refine wp_step rfl rfl ?_
        refine wp_c0 rfl rfl (by decide) rfl (recv_ok hc2.1 rfl) rfl (q_cpClear hc2 (fun T3 hf3 hc3 => ?_))
        have hk3 := sK_fr hk2 hf3 (by decide) (by decide)
        have hv3 := vS_fr hv2 hf3 (fun j hj => by simp only [List.mem_append, List.mem_cons, List.not_mem_nil, or_false, List.mem_range'_1] at hj; omega)
        have hr3 := reS_fr hr2 hf3 (fun j hj => by simp only [List.mem_append, List.mem_cons, List.not_mem_nil, or_false, List.mem_range'_1] at hj; omega)
        iterate 3 refine wp_step rfl rfl ?_
        rw [show nI s + (Int8.ofInt 20).toInt32 = nI (s + 20) from nI_add s 20]
        iterate 3 refine wp_step rfl rfl ?_
        show wp X _ 35 52 [some (.ref R), some (.ref 1), some (.ref 3), some (.int (nI s)), some (.ref C), some (.int (nI (s + 20))), some (.int (nI 0)), none] [] T3 Q
        have hτs : (cksT cks ++ [τ])[cks.length]? = some τ := by
          rw [List.getElem?_append_right (by simp)]
          simp
        refine rc_loop (d := d) (e := s + z) (τs := cksT cks ++ [τ]) (ci := cks.length) hb hwf hfh (by omega) hR11 (by omega) (by omega) (by omega) hτs 960 0 (s + 20) n l A B0 E [] [] evs none T3 (by omega) ⟨⟨_, _, _, hk3⟩, hv3, by rw [fr_get hf3 (by simp only [List.mem_append, List.mem_cons, List.not_mem_nil, or_false, List.mem_range'_1]; omega)]; exact hcc2, ckR_fr hcR2 hf3 (by simp only [List.mem_append, List.mem_cons, List.not_mem_nil, or_false, List.mem_range'_1]; omega), ckT_fr hcT2 hwf.1 hf3 (fun j hj => by simp only [List.mem_append, List.mem_cons, List.not_mem_nil, or_false, List.mem_range'_1] at hj; omega), hc3, ⟨fun i y hy => by simp at hy, fun i k hk => by simp at hk⟩, ⟨by simp, by simp, fun i y hy => by simp at hy, fun i j x y hij hx => by simp at hx⟩, fun k hk => by simp at hk, hr3, hE, h60, evG_add hEG, hn, by omega, by omega, by simp, fun i y hy => by simp at hy⟩ (fun n' l' A' B' E' cps' ks' evs' q' y5 y6 y7 T4 e4 hf4 hI4 ha4 hn4 hl4 => ?_) (fun k pl T4 e4 hf4 hx4 => ?_)
        · obtain ⟨⟨pos4, lim4, idp4, hk4⟩, hv4, hcc4, hcR4, hcT4, hc4', hD4, hO4, hG4, hr4, hE4, h60', hEG4, hn4', hl4', hqe4, h44, hpl4⟩ := hI4
          have hfX : fr [1, 3, 4, 5, 6, 7, 8, 9, 10, R, R + 2, R + 2 + 1, R + 2 + 2, R + 2 + 3, R + 2 + 4, R + 2 + 5, R + 8, R + 9, R + 10] T2 T4 := fr_trans (fr_mono hf3 (fun j hj => by simp only [List.mem_append, List.mem_cons, List.not_mem_nil, or_false, List.mem_range'_1] at hj ⊢; omega)) hf4
          have hfL : fr ([1, 3, 4, 5, 6, 7, 8, 9, 10] ++ List.range' R 11) T2 T4 := fr_mono hfX (fun j hj => by simp only [List.mem_append, List.mem_cons, List.not_mem_nil, or_false, List.mem_range'_1] at hj ⊢; omega)
          have hF4 := reF_fr hF2' hfX (by simp only [List.mem_append, List.mem_cons, List.not_mem_nil, or_false, List.mem_range'_1]; omega)
          have hcK4 := ckK_fr hcK2 hfL (fun j hj => by simp only [List.mem_append, List.mem_cons, List.not_mem_nil, or_false, List.mem_range'_1] at hj; omega)
          have hcA4 := allS_fr hcA2 hfL (fun j hj => by simp only [List.mem_append, List.mem_cons, List.not_mem_nil, or_false, List.mem_range'_1] at hj; omega)
          iterate 3 refine wp_step rfl rfl ?_
          refine wp_c0 rfl rfl (by decide) rfl (recv_ok hc4'.1 rfl) rfl (q_link (d := d + 25) hb (by omega) (by omega) hD4 hO4 (by omega) hk4 hc4' hcc4 hcK4 (fun L K5 T5 e5 hf5 hcc5 hcK5 hKD5 hL5 => ?_) (fun k pl T5 e5 hf5 hx5 hs5 => ?_))
          · have hfM : fr (List.range' C 45) T4 T5 := fr_mono hf5 (fun j hj => by simp only [List.mem_append, List.mem_cons, List.not_mem_nil, or_false, List.mem_range'_1] at hj ⊢; omega)
            have hr5 := reS_fr hr4 hfM (fun j hj => by simp only [List.mem_append, List.mem_cons, List.not_mem_nil, or_false, List.mem_range'_1] at hj; omega)
            iterate 2 refine wp_step rfl rfl ?_
            refine wp_getg rfl hr5.1 (by decide) rfl ?_
            iterate 2 refine wp_step rfl rfl ?_
            rw [show nI cks.length + Int32.ofInt 1 = nI (cks.length + 1) from nI_add cks.length 1]
            refine wp_putg rfl hr5.1 (by decide) rfl rfl ?_
            rw [show va_up (reG R (nI cks.length) (nI evs'.length)) 0 (.int (nI (cks.length + 1))) = reG R (nI (cks.length + 1)) (nI evs'.length) from reG_0]
            have hr6 := reS_0 hr5 (cks.length + 1) evs'.length
            have hf6 : fr [R] T5 (am_upd T5 R (reC R (nI (cks.length + 1)) (nI evs'.length))) := fr_up (by simp)
            generalize am_upd T5 R (reC R (nI (cks.length + 1)) (nI evs'.length)) = T6 at hr6 hf6 ⊢
            have hcc6 : am_get T6 C = some (ckC C (nI s) (nI (s + z)) (lN (w4 b (s + 12))) (lN (w4 b (s + 16))) (nI τ.length) (nI L.length)) := by rw [fr_get hf6 (by simp only [List.mem_append, List.mem_cons, List.not_mem_nil, or_false, List.mem_range'_1]; omega)]; exact hcc5
            have hfN : fr (List.range' C 45 ++ [R]) T4 T6 := fr_trans (fr_mono hfM (fun j hj => by simp only [List.mem_append, List.mem_cons, List.not_mem_nil, or_false, List.mem_range'_1] at hj ⊢; omega)) (fr_mono hf6 (fun j hj => by simp only [List.mem_append, List.mem_cons, List.not_mem_nil, or_false, List.mem_range'_1] at hj ⊢; omega))
            refine wp_step rfl rfl ?_
            refine wp_getg rfl hcc6 (by decide) rfl ?_
            refine wp_iret rfl rfl rfl (hret (s + z) (n', evs', cks ++ [(s, s + z, τ, L)]) l' A' E' T6 (by unfold rdCk; rw [if_neg c0, eH]; dsimp only; rw [eM]; dsimp only; rw [if_pos ⟨hfh, hcyc⟩, e4]; dsimp only; rw [e5]) (fr_trans hf2J (fr_trans (fr_mono hfL (fun j hj => by simp only [List.mem_append, List.mem_cons, List.not_mem_nil, or_false, List.mem_range'_1] at hj ⊢; omega)) (fr_mono hfN (fun j hj => by simp only [List.mem_append, List.mem_cons, List.not_mem_nil, or_false, List.mem_range'_1] at hj ⊢; omega)))) ⟨_, _, _, sK_fr hk4 hfN (by simp only [List.mem_append, List.mem_cons, List.not_mem_nil, or_false, List.mem_range'_1]; omega) (by simp only [List.mem_append, List.mem_cons, List.not_mem_nil, or_false, List.mem_range'_1]; omega)⟩ ⟨_, _, _, cpS_fr hc4' hfN (fun j hj => by simp only [List.mem_append, List.mem_cons, List.not_mem_nil, or_false, List.mem_range'_1] at hj; omega)⟩ ?_ (by omega) (by omega) (by omega))
            have hlenC : (cks ++ [((s, s + z, τ, L) : jCk)]).length = cks.length + 1 := by simp
            have hf56 : fr [C, C + 2, C + 3, C + 4, R] T4 T6 := fr_trans (fr_mono hf5 (fun j hj => by simp only [List.mem_append, List.mem_cons, List.not_mem_nil, or_false, List.mem_range'_1] at hj ⊢; omega)) (fr_mono hf6 (fun j hj => by simp only [List.mem_append, List.mem_cons, List.not_mem_nil, or_false, List.mem_range'_1] at hj ⊢; omega))
            have own : ckF T6 b C (s, s + z, τ, L) := ⟨hcc6, ckR_fr hcR4 hf56 (by simp only [List.mem_append, List.mem_cons, List.not_mem_nil, or_false, List.mem_range'_1]; omega), ckT_fr hcT4 hwf.1 hf56 (fun j hj => by simp only [List.mem_append, List.mem_cons, List.not_mem_nil, or_false, List.mem_range'_1] at hj; omega), K5, ckK_fr hcK5 hf6 (fun j hj => by simp only [List.mem_append, List.mem_cons, List.not_mem_nil, or_false, List.mem_range'_1] at hj; omega), hKD5⟩
            refine ⟨vS_fr hv4 hfN (fun j hj => by simp only [List.mem_append, List.mem_cons, List.not_mem_nil, or_false, List.mem_range'_1] at hj; omega), by rw [hlenC]; exact hr6, hE4, h60', ?_, reF_fr hF4 hfN (by simp only [List.mem_append, List.mem_cons, List.not_mem_nil, or_false, List.mem_range'_1]; omega), fun c ck hck => ?_, fun c hc => ?_, by rw [hlenC]; omega, hn4', fun ck hck => ?_, by omega⟩
            · rw [show cksT (cks ++ [((s, s + z, τ, L) : jCk)]) = cksT cks ++ [τ] by simp]
              exact hEG4
            · rcases at_app hck with ⟨g1, g2⟩ | ⟨g1, g2⟩
              · have hck3 := (hCP ck (mem_at g2)).2.2.1.1
                exact ckF_fr (ckF_fr (ckF_fr (hCF c ck g2) hck3 hfO (fun j hj => by simp only [List.mem_append, List.mem_cons, List.not_mem_nil, or_false, List.mem_range'_1] at hj; omega)) hck3 hfL (fun j hj => by simp only [List.mem_append, List.mem_cons, List.not_mem_nil, or_false, List.mem_range'_1] at hj; omega)) hck3 hfN (fun j hj => by simp only [List.mem_append, List.mem_cons, List.not_mem_nil, or_false, List.mem_range'_1] at hj; omega)
              · subst g1; subst g2; rw [hC]; exact own
            · by_cases e9 : c = cks.length
              · subst e9
                rw [hC]
                exact ⟨⟨⟨_, _, _, _, _, _, hcc6⟩, ckR_fr hcR4 hf56 (by simp only [List.mem_append, List.mem_cons, List.not_mem_nil, or_false, List.mem_range'_1]; omega), allS_fr hcA4 hf56 (fun j hj => by simp only [List.mem_append, List.mem_cons, List.not_mem_nil, or_false, List.mem_range'_1] at hj; omega)⟩, ⟨K5, ckK_fr hcK5 hf6 (fun j hj => by simp only [List.mem_append, List.mem_cons, List.not_mem_nil, or_false, List.mem_range'_1] at hj; omega)⟩⟩
              · exact ckA_fr (ckA_fr (ckA_fr (hCA c hc) hfO (fun j hj => by simp only [List.mem_append, List.mem_cons, List.not_mem_nil, or_false, List.mem_range'_1] at hj; omega)) hfL (fun j hj => by simp only [List.mem_append, List.mem_cons, List.not_mem_nil, or_false, List.mem_range'_1] at hj; omega)) hfN (fun j hj => by simp only [List.mem_append, List.mem_cons, List.not_mem_nil, or_false, List.mem_range'_1] at hj; omega)
            · rcases List.mem_append.mp hck with g | g
              · exact ckP_agr (hCP ck g) ha4 hn4 hl4
              · rw [List.mem_singleton] at g
                subst g
                exact ⟨by dsimp only; omega, by dsimp only; omega, hwf, hfh, hcyc, fun k hk => hG4 k (lnk_mem e5 k hk), hL5, hz.2.2.2⟩
          · have hfM : fr ([1] ++ List.range' C 45) T4 T5 := fr_mono hf5 (fun j hj => by simp only [List.mem_append, List.mem_cons, List.not_mem_nil, or_false, List.mem_range'_1] at hj ⊢; omega)
            refine hthr k pl T5 (by unfold rdCk; rw [if_neg c0, eH]; dsimp only; rw [eM]; dsimp only; rw [if_pos ⟨hfh, hcyc⟩, e4]; dsimp only; rw [e5]) (fr_trans hf2J (fr_trans (fr_mono hfL (fun j hj => by simp only [List.mem_append, List.mem_cons, List.not_mem_nil, or_false, List.mem_range'_1] at hj ⊢; omega)) (fr_mono hfM (fun j hj => by simp only [List.mem_append, List.mem_cons, List.not_mem_nil, or_false, List.mem_range'_1] at hj ⊢; omega)))) hx5 ⟨_, _, _, cpS_fr hc4' hfM (fun j hj => by simp only [List.mem_append, List.mem_cons, List.not_mem_nil, or_false, List.mem_range'_1] at hj; omega)⟩ ⟨⟨_, _, _, reS_fr hr4 hfM (fun j hj => by simp only [List.mem_append, List.mem_cons, List.not_mem_nil, or_false, List.mem_range'_1] at hj; omega)⟩, ⟨_, _, _, vS_fr hv4 hfM (fun j hj => by simp only [List.mem_append, List.mem_cons, List.not_mem_nil, or_false, List.mem_range'_1] at hj; omega)⟩, reF_fr hF4 hfM (by simp only [List.mem_append, List.mem_cons, List.not_mem_nil, or_false, List.mem_range'_1]; omega), fun c hc => ?_⟩
            obtain ⟨nc9, K9, g1, g2⟩ := hs5
            by_cases e9 : c = cks.length
            · subst e9
              rw [hC]
              exact ⟨⟨⟨_, _, _, _, _, _, g1⟩, ckR_fr hcR4 hf5 (by simp only [List.mem_append, List.mem_cons, List.not_mem_nil, or_false, List.mem_range'_1]; omega), allS_fr hcA4 hf5 (fun j hj => by simp only [List.mem_append, List.mem_cons, List.not_mem_nil, or_false, List.mem_range'_1] at hj; omega)⟩, ⟨K9, g2⟩⟩
            · exact ckA_fr (ckA_fr (ckA_fr (hCA c hc) hfO (fun j hj => by simp only [List.mem_append, List.mem_cons, List.not_mem_nil, or_false, List.mem_range'_1] at hj; omega)) hfL (fun j hj => by simp only [List.mem_append, List.mem_cons, List.not_mem_nil, or_false, List.mem_range'_1] at hj; omega)) hfM (fun j hj => by simp only [List.mem_append, List.mem_cons, List.not_mem_nil, or_false, List.mem_range'_1] at hj; omega)
        · have hfL : fr ([1, 3, 4, 5, 6, 7, 8, 9, 10] ++ List.range' R 11) T2 T4 := fr_trans (fr_mono hf3 (fun j hj => by simp only [List.mem_append, List.mem_cons, List.not_mem_nil, or_false, List.mem_range'_1] at hj ⊢; omega)) (fr_mono hf4 (fun j hj => by simp only [List.mem_append, List.mem_cons, List.not_mem_nil, or_false, List.mem_range'_1] at hj ⊢; omega))
          refine hthr k pl T4 (by unfold rdCk; rw [if_neg c0, eH]; dsimp only; rw [eM]; dsimp only; rw [if_pos ⟨hfh, hcyc⟩, e4]) (fr_trans hf2J (fr_mono hfL (fun j hj => by simp only [List.mem_append, List.mem_cons, List.not_mem_nil, or_false, List.mem_range'_1] at hj ⊢; omega))) hx4.1 hx4.2.2.1 ⟨hx4.2.2.2, hx4.2.1, reF_fr hF2' (fr_trans (fr_mono (ks := [1, 3, 4, 5, 6, 7, 8, 9, 10, R, R + 2, R + 2 + 1, R + 2 + 2, R + 2 + 3, R + 2 + 4, R + 2 + 5, R + 8, R + 9, R + 10]) hf3 (fun j hj => by simp only [List.mem_append, List.mem_cons, List.not_mem_nil, or_false, List.mem_range'_1] at hj ⊢; omega)) hf4) (by simp only [List.mem_append, List.mem_cons, List.not_mem_nil, or_false, List.mem_range'_1]; omega), fun c hc => ?_⟩
          by_cases e9 : c = cks.length
          · subst e9
            rw [hC]
            exact ckA_fr ⟨⟨⟨_, _, _, _, _, _, hcc2⟩, hcR2, hcA2⟩, ⟨K, hcK2⟩⟩ hfL (fun j hj => by simp only [List.mem_append, List.mem_cons, List.not_mem_nil, or_false, List.mem_range'_1] at hj; omega)
          · exact ckA_fr (ckA_fr (hCA c hc) hfO (fun j hj => by simp only [List.mem_append, List.mem_cons, List.not_mem_nil, or_false, List.mem_range'_1] at hj; omega)) hfL (fun j hj => by simp only [List.mem_append, List.mem_cons, List.not_mem_nil, or_false, List.mem_range'_1] at hj; omega)
      · have hf2J := fr_trans hf1J (fr_mono (ks := ([1, 3, 4, 5, 6, 7, 8, 9, 10] ++ List.range' R 191)) hf2 (fun j hj => by simp only [List.mem_append, List.mem_cons, List.not_mem_nil, or_false, List.mem_range'_1] at hj ⊢; omega))
        refine hthr k pl T2 ?_ hf2J hx2 ⟨_, _, _, cpS_fr hc1 hf2 (fun j hj => by simp only [List.mem_append, List.mem_cons, List.not_mem_nil, or_false, List.mem_range'_1] at hj; omega)⟩ ⟨⟨_, _, _, reS_fr hr1 hf2 (fun j hj => by simp only [List.mem_append, List.mem_cons, List.not_mem_nil, or_false, List.mem_range'_1] at hj; omega)⟩, ⟨_, _, _, vS_fr hv1 hf2 (fun j hj => by simp only [List.mem_append, List.mem_cons, List.not_mem_nil, or_false, List.mem_range'_1] at hj; omega)⟩, reF_fr hF1' hf2 (by simp only [List.mem_append, List.mem_cons, List.not_mem_nil, or_false, List.mem_range'_1]; omega), fun c hc => ?_⟩
        · unfold rdCk
          rw [if_neg c0, eH]
          dsimp only
          rcases eM with eM | ⟨τ, eM, hwf, hbad, rfl, rfl⟩
          · rw [eM]
          · rw [eM]
            dsimp only
            rw [if_neg]
            rintro ⟨g1, g2⟩
            rcases hbad with g | g
            · exact g g1
            · exact ring_no g g2
        · by_cases e9 : c = cks.length
          · subst e9
            rw [hC]
            exact ⟨hs2, ⟨K, ckK_fr hcK1 hf2 (fun j hj => by simp only [List.mem_append, List.mem_cons, List.not_mem_nil, or_false, List.mem_range'_1] at hj; omega)⟩⟩
          · exact ckA_fr (hCA c hc) (fr_trans (fr_mono (ks := [1] ++ List.range' C 45) hf1 (fun j hj => by simp only [List.mem_append, List.mem_cons, List.not_mem_nil, or_false, List.mem_range'_1] at hj ⊢; omega)) (fr_mono hf2 (fun j hj => by simp only [List.mem_append, List.mem_cons, List.not_mem_nil, or_false, List.mem_range'_1] at hj ⊢; omega))) (fun j hj => by simp only [List.mem_append, List.mem_cons, List.not_mem_nil, or_false, List.mem_range'_1] at hj; omega)
    · refine hthr k pl T (by unfold rdCk; rw [if_neg c0, eH]) (fr_mono hf1 (fun j hj => by simp only [List.mem_append, List.mem_cons, List.not_mem_nil, or_false, List.mem_range'_1] at hj ⊢; omega)) hx1 ⟨_, _, _, cpS_fr hc hf1 (fun j hj => by simp only [List.mem_append, List.mem_cons, List.not_mem_nil, or_false, List.mem_range'_1] at hj; omega)⟩ ⟨⟨_, _, _, reS_fr hr hf1 (fun j hj => by simp only [List.mem_append, List.mem_cons, List.not_mem_nil, or_false, List.mem_range'_1] at hj; omega)⟩, ⟨_, _, _, vS_fr hv hf1 (fun j hj => by simp only [List.mem_append, List.mem_cons, List.not_mem_nil, or_false, List.mem_range'_1] at hj; omega)⟩, reF_fr hF hf1 (by simp only [List.mem_append, List.mem_cons, List.not_mem_nil, or_false, List.mem_range'_1]; omega), fun c hc => ?_⟩
      obtain ⟨st', en', tk', fq', h9⟩ := hs1
      by_cases e9 : c = cks.length
      · subst e9
        rw [hC]
        exact ⟨⟨⟨_, _, _, _, _, _, h9⟩, ckR_fr hcR hf1 (by simp only [List.mem_append, List.mem_cons, List.not_mem_nil, or_false, List.mem_range'_1]; omega), allS_fr hcA hf1 (fun j hj => by simp only [List.mem_append, List.mem_cons, List.not_mem_nil, or_false, List.mem_range'_1] at hj; omega)⟩, ⟨K, ckK_fr hcK hf1 (fun j hj => by simp only [List.mem_append, List.mem_cons, List.not_mem_nil, or_false, List.mem_range'_1] at hj; omega)⟩⟩
      · exact ckA_fr (hCA c hc) hf1 (fun j hj => by simp only [List.mem_append, List.mem_cons, List.not_mem_nil, or_false, List.mem_range'_1] at hj; omega)
  · replace c0 := n_ne_f (a := cks.length) (b := 4) (by omega) (by omega) c0
    iterate 3 refine wp_step rfl rfl ?_
    refine wp_flJ rfl rfl hJ (fun T hf hx => hthr 8 s T (by unfold rdCk; rw [if_pos c0]) (fr_mono hf (fun j hj => by simp only [List.mem_append, List.mem_cons, List.not_mem_nil, or_false, List.mem_range'_1] at hj ⊢; omega)) hx ⟨_, _, _, cpS_fr hc hf (fun j hj => by simp only [List.mem_append, List.mem_cons, List.not_mem_nil, or_false, List.mem_range'_1] at hj; omega)⟩ ⟨⟨_, _, _, reS_fr hr hf (fun j hj => by simp only [List.mem_append, List.mem_cons, List.not_mem_nil, or_false, List.mem_range'_1] at hj; omega)⟩, ⟨_, _, _, vS_fr hv hf (fun j hj => by simp only [List.mem_append, List.mem_cons, List.not_mem_nil, or_false, List.mem_range'_1] at hj; omega)⟩, reF_fr hF hf (by simp only [List.mem_append, List.mem_cons, List.not_mem_nil, or_false, List.mem_range'_1]; omega), fun c hc => ckA_fr (hCA c hc) hf (fun j hj => by simp only [List.mem_append, List.mem_cons, List.not_mem_nil, or_false, List.mem_range'_1] at hj; omega)⟩)
end CHUNK2
