/-! Chunk.readMetadata -/
section META2
variable {X : Nat × (Nat → Int32)} {d : Nat} {Q : am_R → Prop} {b : Nat → Nat} {tot pos lim idp c s e : Nat} {tk fq : Int64} {nt nc : Int32} {S : am_S}
theorem wf_nil : wfT [] := ⟨by decide, fun x hx => (by cases hx), fun i j x y hx => (by simp at hx)⟩
theorem rdTs_ok {b : Nat → Nat} {lim : Nat} : ∀ {n p p' : Nat} {τ τ' : jTT}, rdTs b lim n τ p = .inr (τ', p') → wfT τ → τ.length + n ≤ 10 → τ'.length = τ.length + n ∧ wfT τ' ∧ p ≤ p' := by
  intro n
  induction n with
  | zero => intro p p' τ τ' h hw _; cases h; exact ⟨rfl, hw, Nat.le_refl _⟩
  | succ n ih =>
    intro p p' τ τ' h hw hl
    unfold rdTs at h
    split at h
    · cases h
    · rename_i id p1 hc
      have hcl := cnt_lt hc
      split at h
      · cases h
      · rename_i hn
        split at h
        · cases h
        · rename_i x p2 e2
          have h16 : 16 ≤ id := by omega
          obtain ⟨h1, h2, h3, h4⟩ := rdT1_ok e2 h16 hcl.1
          have hx : tix τ x.1 = none := by
            rw [h2]
            cases hx : tix τ id with
            | none => rfl
            | some u => exact absurd (Or.inr (by rw [hx]; simp)) hn
          obtain ⟨h5, h6, h7⟩ := ih h (wf_add hw (by omega) h1 hx) (by simp; omega)
          exact ⟨by rw [h5]; simp; omega, h6, by omega⟩
set_option maxHeartbeats 2000000 in
theorem q_readMetadata (hb : ∀ j, b j < 256) (h : sK S b tot pos lim idp) (hc3 : 3 ≤ c) (hc9 : c < 800000) (hcc : am_get S c = some (ckC c (nI s) (nI e) tk fq nt nc)) (hR : ckR S c) (hA : allS S c) (hs : s + 20 ≤ e) (he : e ≤ tot)
    (hret : ∀ τ T, rdM b s e = .inr τ → wfT τ → fht τ → nocyc τ → fr (1 :: List.range' c 45) S T → (∃ pos lim idp, sK T b tot pos lim idp) → am_get T c = some (ckC c (nI s) (nI e) tk fq (nI τ.length) nc) → ckR T c → ckT T c τ → allS T c → Q (.inl none, T))
    (hthr : ∀ k pl T, (rdM b s e = .inl (k, pl) ∨ ∃ τ, rdM b s e = .inr τ ∧ wfT τ ∧ (¬ fht τ ∨ ring τ) ∧ k = 4 ∧ pl = s + w2 b (s + 8)) → fr (1 :: List.range' c 45) S T → sX T tot k pl → ckSh T c → Q (.inr IAE, am_thrown T)) : ev X (d + 6) 7 [.ref c, .ref 1] S Q := by
  refine ev_wp (L0 := [some (.ref c), some (.ref 1), none, none, none, none, none, none]) (Nat.le_of_ble_eq_true rfl) rfl ?_
  have hk0 := h.2.2
  have hw2 : w2 b (s + 8) < 65536 := fxN_lt hb (p := s + 8) 2
  refine wp_step rfl rfl ?_
  refine wp_getg rfl hcc (by decide) rfl ?_
  iterate 2 refine wp_step rfl rfl ?_
  refine wp_getg rfl hcc (by decide) rfl ?_
  iterate 3 refine wp_step rfl rfl ?_
  rw [show nI s + (Int8.ofInt 8).toInt32 = nI (s + 8) from nI_add s 8]
  refine wp_c0 rfl rfl (by decide) rfl (recv_ok h.1 rfl) rfl (q_fixedAt (n := 2) h (by omega) ?_)
  rw [show fx (Bn b) (s + 8) 2 = lN (w2 b (s + 8)) from fx_N hb 2 (by decide)]
  refine wp_step rfl rfl ?_
  rw [lN_i]
  refine wp_step rfl rfl ?_
  rw [nI_add]
  have bad : (w2 b (s + 8) < 20 ∨ e ≤ s + w2 b (s + 8)) → wp X (d + 5) 7 38 [some (.ref c), some (.ref 1), some (.int (nI (s + w2 b (s + 8)))), none, none, none, none, none] [] S Q := by
    intro hbad
    iterate 3 refine wp_step rfl rfl ?_
    refine wp_getg rfl hcc (by decide) rfl ?_
    iterate 2 refine wp_step rfl rfl ?_
    rw [show nI s + (Int8.ofInt 8).toInt32 = nI (s + 8) from nI_add s 8]
    refine wp_fl rfl rfl h (fun T hf hx => hthr 3 (s + 8) T (Or.inl ?_) (fr_mono hf (fun j hj => by simp only [List.mem_cons, List.not_mem_nil, or_false, List.mem_range'_1] at hj ⊢; omega)) hx ⟨⟨_, _, _, _, _, _, by rw [fr_get hf (by simp only [List.mem_cons, List.not_mem_nil, or_false, List.mem_range'_1]; omega)]; exact hcc⟩, ckR_fr hR hf (by simp only [List.mem_cons, List.not_mem_nil, or_false, List.mem_range'_1]; omega), allS_fr hA hf (fun j hj => by simp only [List.mem_cons, List.not_mem_nil, or_false] at hj; omega)⟩)
    unfold rdM; rw [if_pos hbad]
  iterate 3 refine wp_step rfl rfl ?_
  refine wp_getg rfl hcc (by decide) rfl ?_
  iterate 2 refine wp_step rfl rfl ?_
  rw [show nI s + (Int8.ofInt 20).toInt32 = nI (s + 20) from nI_add s 20]
  refine wp_icmp rfl (fun c1 => ?_) (fun c1 => ?_)
  · replace c1 := n_lt_t (a := s + w2 b (s + 8)) (b := s + 20) (by omega) (by omega) c1
    exact bad (Or.inl (by omega))
  · replace c1 := n_lt_f (a := s + w2 b (s + 8)) (b := s + 20) (by omega) (by omega) c1
    iterate 2 refine wp_step rfl rfl ?_
    refine wp_getg rfl hcc (by decide) rfl ?_
    refine wp_icmp rfl (fun c2 => ?_) (fun c2 => ?_)
    · replace c2 := n_lt_t (a := s + w2 b (s + 8)) (b := e) (by omega) (by omega) c2
      have hn1 : ¬ (w2 b (s + 8) < 20 ∨ e ≤ s + w2 b (s + 8)) := by omega
      iterate 3 refine wp_step rfl rfl ?_
      refine wp_getg rfl hcc (by decide) rfl ?_
      refine wp_c0 rfl rfl (by decide) rfl (recv_ok h.1 rfl) rfl (q_head (s := s + w2 b (s + 8)) h (by omega) he (fun len id p1 p2 T1 hh hf1 hk1 => ?_) (fun k pl T1 hh hf1 hx1 => ?_))
      · have hho := hd_ok hh
        have hcc1 : am_get T1 c = some (ckC c (nI s) (nI e) tk fq nt nc) := by rw [fr_get hf1 (by simp only [List.mem_cons, List.not_mem_nil, or_false, List.mem_range'_1]; omega)]; exact hcc
        have hR1 := ckR_fr hR hf1 (by simp only [List.mem_cons, List.not_mem_nil, or_false, List.mem_range'_1]; omega)
        have hA1 := allS_fr hA hf1 (fun j hj => by simp only [List.mem_cons, List.not_mem_nil, or_false] at hj; omega)
        have hf1J := fr_mono (ks := (1 :: List.range' c 45)) hf1 (fun j hj => by simp only [List.mem_cons, List.not_mem_nil, or_false, List.mem_range'_1] at hj ⊢; omega)
        refine wp_if rfl (fun c3 => ?_) (fun c3 => ?_)
        · replace c3 := z_eq_t (a := id) (by omega) c3
          refine wp_step rfl rfl ?_
          refine wp_getg rfl hk1.1 (by decide) rfl ?_
          iterate 2 refine wp_step rfl rfl ?_
          refine wp_c0 rfl rfl (by decide) rfl (recv_ok hk1.1 rfl) rfl (q_count hk1 (fun n p3 T2 hcn hf2 hk2 => ?_) (fun T2 hcn hf2 hx2 => ?_))
          · have hcl := cnt_lt hcn
            have hcc2 : am_get T2 c = some (ckC c (nI s) (nI e) tk fq nt nc) := by rw [fr_get hf2 (by simp only [List.mem_cons, List.not_mem_nil, or_false, List.mem_range'_1]; omega)]; exact hcc1
            have hR2 := ckR_fr hR1 hf2 (by simp only [List.mem_cons, List.not_mem_nil, or_false, List.mem_range'_1]; omega)
            have hA2 := allS_fr hA1 hf2 (fun j hj => by simp only [List.mem_cons, List.not_mem_nil, or_false] at hj; omega)
            have hf2J := fr_trans hf1J (fr_mono (ks := (1 :: List.range' c 45)) hf2 (fun j hj => by simp only [List.mem_cons, List.not_mem_nil, or_false, List.mem_range'_1] at hj ⊢; omega))
            iterate 3 refine wp_step rfl rfl ?_
            refine wp_icmp rfl (fun c4 => ?_) (fun c4 => ?_)
            · replace c4 := n_le_t (a := n) (b := 10) (by omega) (by omega) c4
              iterate 2 refine wp_step rfl rfl ?_
              refine wp_putg rfl hcc2 (by decide) rfl rfl ?_
              rw [ckG_4]
              iterate 2 refine wp_step rfl rfl ?_
              have hf3 : fr [c] T2 (am_upd T2 c (ckC c (nI s) (nI e) tk fq (nI 0) nc)) := fr_up (by simp)
              have hf3J := fr_trans hf2J (fr_mono (ks := (1 :: List.range' c 45)) hf3 (fun j hj => by simp only [List.mem_cons, List.not_mem_nil, or_false, List.mem_range'_1] at hj ⊢; omega))
              refine md_loop hb hc3 hc9 (tk := tk) (fq := fq) (nc := nc) (s := s) (e := e) c4 n 0 [] p3 _ _ _ (by omega) rfl wf_nil (sK_fr hk2 hf3 (by simp only [List.mem_cons, List.not_mem_nil, or_false, List.mem_range'_1]; omega) (by simp only [List.mem_cons, List.not_mem_nil, or_false, List.mem_range'_1]; omega)) (am_get_self hcc2) (ckR_fr hR2 hf3 (by simp only [List.mem_cons, List.not_mem_nil, or_false, List.mem_range'_1]; omega)) (fun t x hx => by simp at hx) (allS_fr hA2 hf3 (fun j hj => by simp only [List.mem_cons, List.not_mem_nil, or_false] at hj; omega)) (fun τ p4 T4 x6 x7 e4 hf4 hk4 hcc4 hR4 hT4 hA4 => ?_) (fun k pl T4 e4 hf4 hx4 hs4 => ?_)
              · obtain ⟨hτn, hwf, hp4⟩ := rdTs_ok e4 wf_nil (by simp; omega)
                simp at hτn
                have hf4J := fr_trans hf3J hf4
                refine wp_step rfl rfl ?_
                refine wp_c0 rfl rfl (by decide) rfl (recv_ok hk4.1 rfl) rfl (q_eventEnd hk4 (fun hle => ?_) (fun T5 hlt hf5 hx5 => ?_))
                · have eM : rdM b s e = .inr τ := by unfold rdM; rw [if_neg hn1, hh]; dsimp only; rw [if_neg (by omega), hcn]; dsimp only; rw [if_neg (by omega), e4]; dsimp only; rw [if_neg (by omega)]
                  have hO : ckO T4 c τ := ⟨⟨_, _, _, _, _, by rw [hτn]; exact hcc4⟩, hR4, hT4⟩
                  have bad2 : (¬ fht τ ∨ ring τ) → wp X (d + 5) 7 192 [some (.ref c), some (.ref 1), some (.int (nI (s + w2 b (s + 8)))), some (.int (nI p2)), some (.int (nI n)), some (.int (nI n)), x6, x7] [] T4 Q := by
                    intro hbad
                    iterate 3 refine wp_step rfl rfl ?_
                    exact wp_fl rfl rfl hk4 (fun T hf hx => hthr 4 (s + w2 b (s + 8)) T (Or.inr ⟨τ, eM, hwf, hbad, rfl, rfl⟩) (fr_trans hf4J (fr_mono hf (fun j hj => by simp only [List.mem_cons, List.not_mem_nil, or_false, List.mem_range'_1] at hj ⊢; omega))) hx ⟨⟨_, _, _, _, _, _, by rw [fr_get hf (by simp only [List.mem_cons, List.not_mem_nil, or_false, List.mem_range'_1]; omega)]; exact hcc4⟩, ckR_fr hR4 hf (by simp only [List.mem_cons, List.not_mem_nil, or_false, List.mem_range'_1]; omega), allS_fr hA4 hf (fun j hj => by simp only [List.mem_cons, List.not_mem_nil, or_false] at hj; omega)⟩)
                  refine wp_step rfl rfl ?_
                  refine wp_c0 rfl rfl (by decide) rfl (recv_ok hcc4 rfl) rfl (q_fieldsHaveTypes hwf hO (by omega) (fun hg => ?_) (fun hg => ?_))
                  · refine wp_if_f rfl (by decide) ?_
                    refine wp_step rfl rfl ?_
                    refine wp_c0 rfl rfl (by decide) rfl (recv_ok hcc4 rfl) rfl (q_someHoldItself hwf hO (by omega) (fun hr => ?_) (fun hr => ?_))
                    · refine wp_if_f rfl (by decide) ?_
                      exact bad2 (Or.inr hr)
                    · refine wp_if_t rfl (by decide) ?_
                      refine wp_vret rfl rfl (hret τ T4 eM hwf hg hr hf4J ⟨_, _, _, hk4⟩ (by rw [hτn]; exact hcc4) hR4 hT4 hA4)
                  · refine wp_if_t rfl (by decide) ?_
                    exact bad2 (Or.inl hg)
                · exact hthr 5 p4 T5 (Or.inl (by unfold rdM; rw [if_neg hn1, hh]; dsimp only; rw [if_neg (by omega), hcn]; dsimp only; rw [if_neg (by omega), e4]; dsimp only; rw [if_pos hlt])) (fr_trans hf4J (fr_mono hf5 (fun j hj => by simp only [List.mem_cons, List.not_mem_nil, or_false, List.mem_range'_1] at hj ⊢; omega))) hx5 ⟨⟨_, _, _, _, _, _, by rw [fr_get hf5 (by simp only [List.mem_cons, List.not_mem_nil, or_false, List.mem_range'_1]; omega)]; exact hcc4⟩, ckR_fr hR4 hf5 (by simp only [List.mem_cons, List.not_mem_nil, or_false, List.mem_range'_1]; omega), allS_fr hA4 hf5 (fun j hj => by simp only [List.mem_cons, List.not_mem_nil, or_false] at hj; omega)⟩
              · exact hthr k pl T4 (Or.inl (by unfold rdM; rw [if_neg hn1, hh]; dsimp only; rw [if_neg (by omega), hcn]; dsimp only; rw [if_neg (by omega), e4])) (fr_trans hf3J hf4) hx4 hs4
            · replace c4 := n_le_f (a := n) (b := 10) (by omega) (by omega) c4
              iterate 3 refine wp_step rfl rfl ?_
              refine wp_fl rfl rfl hk2 (fun T hf hx => hthr 4 p2 T (Or.inl ?_) (fr_trans hf2J (fr_mono hf (fun j hj => by simp only [List.mem_cons, List.not_mem_nil, or_false, List.mem_range'_1] at hj ⊢; omega))) hx ⟨⟨_, _, _, _, _, _, by rw [fr_get hf (by simp only [List.mem_cons, List.not_mem_nil, or_false, List.mem_range'_1]; omega)]; exact hcc2⟩, ckR_fr hR2 hf (by simp only [List.mem_cons, List.not_mem_nil, or_false, List.mem_range'_1]; omega), allS_fr hA2 hf (fun j hj => by simp only [List.mem_cons, List.not_mem_nil, or_false] at hj; omega)⟩)
              unfold rdM; rw [if_neg hn1, hh]; dsimp only; rw [if_neg (by omega), hcn]; dsimp only; rw [if_pos c4]
          · exact hthr _ _ T2 (Or.inl (by unfold rdM; rw [if_neg hn1, hh]; dsimp only; rw [if_neg (by omega), hcn])) (fr_trans hf1J (fr_mono hf2 (fun j hj => by simp only [List.mem_cons, List.not_mem_nil, or_false, List.mem_range'_1] at hj ⊢; omega))) hx2 ⟨⟨_, _, _, _, _, _, by rw [fr_get hf2 (by simp only [List.mem_cons, List.not_mem_nil, or_false, List.mem_range'_1]; omega)]; exact hcc1⟩, ckR_fr hR1 hf2 (by simp only [List.mem_cons, List.not_mem_nil, or_false, List.mem_range'_1]; omega), allS_fr hA1 hf2 (fun j hj => by simp only [List.mem_cons, List.not_mem_nil, or_false] at hj; omega)⟩
        · replace c3 := z_eq_f (a := id) (by omega) c3
          iterate 3 refine wp_step rfl rfl ?_
          refine wp_getg rfl hk1.1 (by decide) rfl ?_
          refine wp_fl rfl rfl hk1 (fun T hf hx => hthr 3 p1 T (Or.inl ?_) (fr_trans hf1J (fr_mono hf (fun j hj => by simp only [List.mem_cons, List.not_mem_nil, or_false, List.mem_range'_1] at hj ⊢; omega))) hx ⟨⟨_, _, _, _, _, _, by rw [fr_get hf (by simp only [List.mem_cons, List.not_mem_nil, or_false, List.mem_range'_1]; omega)]; exact hcc1⟩, ckR_fr hR1 hf (by simp only [List.mem_cons, List.not_mem_nil, or_false, List.mem_range'_1]; omega), allS_fr hA1 hf (fun j hj => by simp only [List.mem_cons, List.not_mem_nil, or_false] at hj; omega)⟩)
          unfold rdM; rw [if_neg hn1, hh]; dsimp only; rw [if_pos c3]
      · exact hthr k pl T1 (Or.inl (by unfold rdM; rw [if_neg hn1, hh])) (fr_mono hf1 (fun j hj => by simp only [List.mem_cons, List.not_mem_nil, or_false, List.mem_range'_1] at hj ⊢; omega)) hx1 ⟨⟨_, _, _, _, _, _, by rw [fr_get hf1 (by simp only [List.mem_cons, List.not_mem_nil, or_false, List.mem_range'_1]; omega)]; exact hcc⟩, ckR_fr hR hf1 (by simp only [List.mem_cons, List.not_mem_nil, or_false, List.mem_range'_1]; omega), allS_fr hA hf1 (fun j hj => by simp only [List.mem_cons, List.not_mem_nil, or_false] at hj; omega)⟩
    · replace c2 := n_lt_f (a := s + w2 b (s + 8)) (b := e) (by omega) (by omega) c2
      exact bad (Or.inr c2)
end META2
