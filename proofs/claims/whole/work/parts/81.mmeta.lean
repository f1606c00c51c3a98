/-! THE MODEL: the metadata -/
def rdMe (b : Nat → Nat) (pm e : Nat) : (Int32 × Nat) ⊕ jTT := match hd (Bn b) pm e with
  | .inl er => .inl er
  | .inr (len, id, p1, p2) => if id ≠ 0 then .inl (3, p1) else (match cnt (Bn b) (pm + len) p2 with
    | none => .inl (2, p2)
    | some (n, p3) => if 10 < n then .inl (4, p2) else (match rdTs b (pm + len) n [] p3 with
      | .inl er => .inl er
      | .inr (τ, p4) => if p4 < pm + len then .inl (5, p4) else .inr τ))
theorem rdM_e {b : Nat → Nat} {s e : Nat} : rdM b s e = if w2 b (s + 8) < 20 ∨ e ≤ s + w2 b (s + 8) then .inl (3, s + 8) else rdMe b (s + w2 b (s + 8)) e := rfl
theorem rdTT_ok {b : Nat → Nat} {lim p p' : Nat} {τ : jTT} {x : jTy} (h : rdTT b lim τ p = .inr (x, p')) : tyOK x ∧ tix τ x.1 = none ∧ p < p' ∧ p' ≤ lim := by
  unfold rdTT at h
  split at h
  · cases h
  · rename_i id p1 hc
    have hcl := cnt_lt hc
    split at h
    · cases h
    · rename_i hn
      obtain ⟨h1, h2, h3, h4⟩ := rdT1_ok h (by omega) hcl.1
      refine ⟨h1, ?_, by omega, h4⟩
      rw [h2]
      cases hx : tix τ id with
      | none => rfl
      | some u => exact absurd (Or.inr (by rw [hx]; simp)) hn
section MMETA
variable {X : Nat × (Nat → Int32)} {d : Nat} {Q : am_R → Prop} {st : Int64} {b : Nat → Nat} {w sl pm e : Nat}
theorem mm_103 {T : am_S} {J : Nat → Int32} {k : Int32} {pl : Nat} {li : Int64} {z3 : Int32} {x4 x5 x6 : Option Value} (hx : mX T J st li k pl) (hq : Q (.inl none, T)) : wp X d 116 103 [some (.ref 408), some (.int (nI pm)), some (.int (nI e)), some (.int z3), x4, x5, x6] [] T Q := by
  refine wp_step rfl rfl ?_
  refine wp_getg (v := (.int k)) rfl hx.1 (by decide) (congrArg Value.int hx.2.1) ?_
  refine wp_if_t rfl (c1_ne0 hx.2.2.1) ?_
  refine wp_vret rfl rfl hq
theorem mm_76 {T : am_S} {J : Nat → Int32} {k : Int32} {pl : Nat} {li : Int64} {z3 z5 : Int32} {x4 : Option Value} (hx : mX T J st li k pl) (hq : Q (.inl none, T)) : wp X d 116 76 [some (.ref 408), some (.int (nI pm)), some (.int (nI e)), some (.int z3), x4, some (.int z5), none] [] T Q := by
  iterate 2 refine wp_step rfl rfl ?_
  show wp X d 116 79 [some (.ref 408), some (.int (nI pm)), some (.int (nI e)), some (.int z3), x4, some (.int z5), some (.int (nI 0))] [] T Q
  iterate 2 refine wp_step rfl rfl ?_
  refine wp_icmp rfl (fun c0 => ?_) (fun c0 => ?_)
  · exact mm_103 hx hq
  · refine wp_step rfl rfl ?_
    refine wp_getg (v := (.int k)) rfl hx.1 (by decide) (congrArg Value.int hx.2.1) ?_
    refine wp_if_t rfl (c1_ne0 hx.2.2.1) ?_
    exact mm_103 hx hq
theorem mm_55 {T : am_S} {J : Nat → Int32} {k : Int32} {pl : Nat} {li : Int64} {z3 z5 : Int32} {x4 : Option Value} (hx : mX T J st li k pl) (hq : Q (.inl none, T)) : wp X d 116 55 [some (.ref 408), some (.int (nI pm)), some (.int (nI e)), some (.int z3), x4, some (.int z5), none] [] T Q := by
  refine wp_step rfl rfl ?_
  refine wp_getg (v := (.int k)) rfl hx.1 (by decide) (congrArg Value.int hx.2.1) ?_
  refine wp_if_t rfl (c1_ne0 hx.2.2.1) ?_
  exact mm_76 hx hq
theorem mm_32 {T : am_S} {J : Nat → Int32} {k : Int32} {pl : Nat} {li : Int64} {z3 : Int32} (hx : mX T J st li k pl) (h21 : ∃ q, J 21 = nI q) (hq : Q (.inl none, T)) : wp X d 116 32 [some (.ref 408), some (.int (nI pm)), some (.int (nI e)), some (.int z3), none, none, none] [] T Q := by
  obtain ⟨q, hq1⟩ := h21
  refine wp_step rfl rfl ?_
  refine wp_getg (v := (.int (nI q))) rfl hx.1 (by decide) (congrArg Value.int hq1) ?_
  iterate 2 refine wp_step rfl rfl ?_
  refine wp_getg (v := (.int k)) rfl hx.1 (by decide) (congrArg Value.int hx.2.1) ?_
  refine wp_if_t rfl (c1_ne0 hx.2.2.1) ?_
  iterate 2 refine wp_step rfl rfl ?_
  show wp X d 116 55 [some (.ref 408), some (.int (nI pm)), some (.int (nI e)), some (.int z3), some (.int (nI q)), some (.int 0), none] [] T Q
  exact mm_55 hx hq
set_option maxHeartbeats 1000000 in
theorem mm_loop {lim n : Nat} {li : Int64} {z3 : Int32} {x4 : Option Value} (hb : ∀ j, b j < 256) (hsl : sl < 8) (hn : n ≤ 10) : ∀ (m i : Nat) (τ : jTT) (p : Nat) (S : am_S) (I : Nat → Int32) (M : jMT), i + m = n → τ.length = i → wfT τ → mR S I st li b w p lim → mTa S M → mTy M sl τ → I 20 = nI sl →
    (∀ τ' p' T J M', rdTs b lim m τ p = .inr (τ', p') → fr [408, 417, 418, 419, 420, 421, 422, 423, 424] S T → gf [21] I J → mR T J st li b w p' lim → mTa T M' → mTy M' sl τ' → wfT τ' → magS M M' sl → wp X (d + 5) 116 103 [some (.ref 408), some (.int (nI pm)), some (.int (nI e)), some (.int z3), x4, some (.int (nI n)), some (.int (nI n))] [] T Q) →
    (∀ k pl T J M', rdTs b lim m τ p = .inl (k, pl) → fr [408, 417, 418, 419, 420, 421, 422, 423, 424] S T → gf [21, 25, 26] I J → mX T J st li k pl → mTa T M' → magS M M' sl → Q (.inl none, T)) → wp X (d + 5) 116 79 [some (.ref 408), some (.int (nI pm)), some (.int (nI e)), some (.int z3), x4, some (.int (nI n)), some (.int (nI i))] [] S Q := by
  intro m
  induction m with
  | zero =>
    intro i τ p S I M hi hτ hwf h hM hT h20 hret hbad
    have e9 : i = n := by omega
    subst e9
    iterate 2 refine wp_step rfl rfl ?_
    refine wp_icmp rfl (fun c0 => ?_) (fun c0 => ?_)
    · replace c0 := n_ge_t (a := i) (b := i) (by omega) (by omega) c0
      exact hret τ p S I M rfl (fr_refl _ _) (gf_refl _ _) h hM hT hwf (magS_refl _ _)
    · replace c0 := n_ge_f (a := i) (b := i) (by omega) (by omega) c0
      omega
  | succ m ih =>
    intro i τ p S I M hi hτ hwf h hM hT h20 hret hbad
    iterate 2 refine wp_step rfl rfl ?_
    refine wp_icmp rfl (fun c0 => ?_) (fun c0 => ?_)
    · replace c0 := n_ge_t (a := i) (b := n) (by omega) (by omega) c0
      omega
    · replace c0 := n_ge_f (a := i) (b := n) (by omega) (by omega) c0
      refine wp_step rfl rfl ?_
      refine wp_getg (v := (.int 0)) rfl h.1 (by decide) (congrArg Value.int h.2.2.2.2.2.1) ?_
      refine wp_if_f rfl rfl ?_
      refine wp_step rfl rfl ?_
      refine wp_c0 rfl rfl (by decide) rfl (recv_ok h.1 rfl) rfl (q_mtypeTold hb h hM hT h20 hsl (by omega) (fun i x hx => by have := (wf_ty hwf hx).1; unfold tyOK at this; omega) (fun i x hx => by have := (wf_ty hwf hx).1; unfold tyOK at this; omega) (fun x p1 T J M1 e1 hf1 hg1 h1 hM1 hT1 ha1 => ?_) (fun k pl T J M1 e1 hf1 hg1 h1 hM1 hq1 ha1 => ?_))
      · obtain ⟨t1, t2, t3, t4⟩ := rdTT_ok e1
        iterate 2 refine wp_step rfl rfl ?_
        rw [show nI i + Int32.ofInt 1 = nI (i + 1) from nI_add i 1]
        refine ih (i + 1) (τ ++ [x]) p1 T J M1 (by omega) (by rw [List.length_append]; simp; omega) (wf_add hwf (by omega) t1 t2) h1 hM1 hT1 ((hg1 20 (by decide)).trans h20) (fun τ2 p2 T2 J2 M2 e2 hf2 hg2 h2 hM2 hT2 hw2 ha2 => ?_) (fun k pl T2 J2 M2 e2 hf2 hg2 h2 hM2 ha2 => ?_)
        · exact hret τ2 p2 T2 J2 M2 (by rw [rdTs_s, e1]; exact e2) (fr_trans hf1 hf2) (gf_trans hg1 hg2) h2 hM2 hT2 hw2 (magS_trans ha1 ha2)
        · exact hbad k pl T2 J2 M2 (by rw [rdTs_s, e1]; exact e2) (fr_trans hf1 hf2) (gf_trans (gf_mono hg1 (fun j hj => by simp only [List.mem_cons, List.not_mem_nil, or_false] at hj ⊢; omega)) hg2) h2 hM2 (magS_trans ha1 ha2)
      · iterate 2 refine wp_step rfl rfl ?_
        rw [show nI i + Int32.ofInt 1 = nI (i + 1) from nI_add i 1]
        iterate 2 refine wp_step rfl rfl ?_
        refine wp_icmp rfl (fun c1 => ?_) (fun c1 => ?_)
        · exact mm_103 h1 (hbad k pl T J M1 (by rw [rdTs_s, e1]) hf1 hg1 h1 hM1 ha1)
        · refine wp_step rfl rfl ?_
          refine wp_getg (v := (.int k)) rfl h1.1 (by decide) (congrArg Value.int h1.2.1) ?_
          refine wp_if_t rfl (c1_ne0 h1.2.2.1) ?_
          exact mm_103 h1 (hbad k pl T J M1 (by rw [rdTs_s, e1]) hf1 hg1 h1 hM1 ha1)
set_option maxHeartbeats 2000000 in
theorem q_mmeta {S : am_S} {I : Nat → Int32} {li : Int64} {M : jMT} (hb : ∀ j, b j < 256) (h : am_get S 408 = some (moC I st li)) (hB : mBy S b w) (h19 : I 19 = nI w) (h25 : I 25 = 0) (hw : w ≤ 1) (h20 : I 20 = nI sl) (hsl : sl < 8) (hM : mTa S M) (hT : mTy M sl []) (hs : pm ≤ e) (he : e ≤ 960)
    (hret : ∀ τ p4 T J M' li' lim', rdMe b pm e = .inr τ → fr [408, 417, 418, 419, 420, 421, 422, 423, 424] S T → gf [21, 22, 57] I J → mR T J st (lN li') b w p4 lim' → mTa T M' → mTy M' sl τ → wfT τ → magS M M' sl → Q (.inl none, T))
    (hbad : ∀ k pl T J M' li', rdMe b pm e = .inl (k, pl) → fr [408, 417, 418, 419, 420, 421, 422, 423, 424] S T → gf [21, 22, 25, 26, 57] I J → mX T J st li' k pl → mTa T M' → magS M M' sl → Q (.inl none, T)) : ev X (d + 6) 116 [.ref 408, .int (nI pm), .int (nI e)] S Q := by
  refine ev_wp (L0 := [some (.ref 408), some (.int (nI pm)), some (.int (nI e)), none, none, none, none]) (Nat.le_of_ble_eq_true rfl) rfl ?_
  iterate 3 refine wp_step rfl rfl ?_
  refine wp_c0 rfl rfl (by decide) rfl (recv_ok h rfl) rfl (q_mbegins hb h hB h19 h25 hw hs he (fun len id p1 p2 T J e1 hf1 hg1 h57 h1 => ?_) (fun k pl T J li2 e1 hf1 hg1 h1 hq1 => ?_))
  · have ho := hd_ok e1
    have hM1 := mTa_fr hM hf1 (fun j hj => by simp only [List.mem_cons, List.not_mem_nil, or_false] at hj; omega)
    have hk1 := h1.2.2.2.2.2.2
    refine wp_step rfl rfl ?_
    show wp X (d + 5) 116 7 [some (.ref 408), some (.int (nI pm)), some (.int (nI e)), some (.int (nI (pm + len))), none, none, none] [] T Q
    refine wp_step rfl rfl ?_
    refine wp_getg (v := (.int 0)) rfl h1.1 (by decide) (congrArg Value.int h1.2.2.2.2.2.1) ?_
    refine wp_if_f rfl rfl ?_
    refine wp_step rfl rfl ?_
    refine wp_getg (v := (.long (lN id))) rfl h1.1 (by decide) rfl ?_
    iterate 2 refine wp_step rfl rfl ?_
    refine wp_if rfl (fun c0 => ?_) (fun c0 => ?_)
    · replace c0 := l_eq_t c0
      have hid : ¬ id ≠ 0 := fun h9 => by
        have h8 := lN_pos h9 (by omega)
        rw [show lN id = 0 from c0] at h8
        exact absurd h8 (by decide)
      refine wp_step rfl rfl ?_
      refine wp_getg (v := (.int (nI p2))) rfl h1.1 (by decide) (congrArg Value.int h1.2.2.2.1) ?_
      iterate 2 refine wp_step rfl rfl ?_
      refine wp_getg (v := (.int 0)) rfl h1.1 (by decide) (congrArg Value.int h1.2.2.2.2.2.1) ?_
      refine wp_if_f rfl rfl ?_
      refine wp_step rfl rfl ?_
      refine wp_c0 rfl rfl (by decide) rfl (recv_ok h1.1 rfl) rfl (q_msmall hb h1 (fun n p3 T2 J2 e2 hf2 hg2 h2 => ?_) (fun T2 J2 e2 hf2 hg2 h2 hq2 => ?_))
      · have hcl := cnt_lt e2
        have hM2 := mTa_fr hM1 hf2 (fun j hj => by simp only [List.mem_cons, List.not_mem_nil, or_false] at hj; omega)
        have hg12 : gf [21, 22, 57] I J2 := gf_trans hg1 (gf_mono hg2 (fun j hj => by simp only [List.mem_cons, List.not_mem_nil, or_false] at hj ⊢; omega))
        have hf12 : fr [408, 417, 418, 419, 420, 421, 422, 423, 424] S T2 := fr_trans (fr_mono hf1 (fun j hj => by simp only [List.mem_cons, List.not_mem_nil, or_false] at hj ⊢; omega)) (fr_mono hf2 (fun j hj => by simp only [List.mem_cons, List.not_mem_nil, or_false] at hj ⊢; omega))
        iterate 2 refine wp_step rfl rfl ?_
        show wp X (d + 5) 116 55 [some (.ref 408), some (.int (nI pm)), some (.int (nI e)), some (.int (nI (pm + len))), some (.int (nI p2)), some (.int (nI n)), none] [] T2 Q
        refine wp_step rfl rfl ?_
        refine wp_getg (v := (.int 0)) rfl h2.1 (by decide) (congrArg Value.int h2.2.2.2.2.2.1) ?_
        refine wp_if_f rfl rfl ?_
        iterate 2 refine wp_step rfl rfl ?_
        refine wp_icmp rfl (fun c1 => ?_) (fun c1 => ?_)
        · replace c1 := n_le_t (a := n) (b := 10) (by omega) (by omega) c1
          iterate 2 refine wp_step rfl rfl ?_
          show wp X (d + 5) 116 79 [some (.ref 408), some (.int (nI pm)), some (.int (nI e)), some (.int (nI (pm + len))), some (.int (nI p2)), some (.int (nI n)), some (.int (nI 0))] [] T2 Q
          refine mm_loop hb hsl c1 n 0 [] p3 T2 J2 M (by omega) rfl wf_nil h2 hM2 hT ((hg12 20 (by decide)).trans h20) (fun τ p4 T4 J4 M4 e4 hf4 hg4 h4 hM4 hT4 hw4 ha4 => ?_) (fun k pl T4 J4 M4 e4 hf4 hg4 h4 hM4 ha4 => ?_)
          · have hk4 := h4.2.2.2.2.2.2
            refine wp_step rfl rfl ?_
            refine wp_getg (v := (.int 0)) rfl h4.1 (by decide) (congrArg Value.int h4.2.2.2.2.2.1) ?_
            refine wp_if_f rfl rfl ?_
            refine wp_step rfl rfl ?_
            refine wp_getg (v := (.int (nI p4))) rfl h4.1 (by decide) (congrArg Value.int h4.2.2.2.1) ?_
            refine wp_step rfl rfl ?_
            refine wp_icmp rfl (fun c2 => ?_) (fun c2 => ?_)
            · replace c2 := n_ge_t (a := p4) (b := pm + len) (by omega) (by omega) c2
              refine wp_vret rfl rfl (hret τ p4 T4 J4 M4 id (pm + len) (by unfold rdMe; rw [e1]; dsimp only; rw [if_neg hid, e2]; dsimp only; rw [if_neg (by omega), e4]; dsimp only; rw [if_neg (by omega)]) (fr_trans hf12 hf4) (gf_trans hg12 (gf_mono hg4 (fun j hj => by simp only [List.mem_cons, List.not_mem_nil, or_false] at hj ⊢; omega))) h4 hM4 hT4 hw4 ha4)
            · replace c2 := n_ge_f (a := p4) (b := pm + len) (by omega) (by omega) c2
              iterate 3 refine wp_step rfl rfl ?_
              refine wp_getg (v := (.int (nI p4))) rfl h4.1 (by decide) (congrArg Value.int h4.2.2.2.1) ?_
              refine wp_c0 rfl rfl (by decide) rfl (recv_ok h4.1 rfl) rfl (q_mwrong h4.1 h4.2.2.2.2.2.1 (fun T5 hf5 h5 => ?_))
              refine wp_vret rfl rfl (hbad 5 p4 T5 _ M4 _ (by unfold rdMe; rw [e1]; dsimp only; rw [if_neg hid, e2]; dsimp only; rw [if_neg (by omega), e4]; dsimp only; rw [if_pos c2]) (fr_trans hf12 (fr_trans hf4 (fr_mono hf5 (fun j hj => by simp only [List.mem_cons, List.not_mem_nil, or_false] at hj ⊢; omega)))) (gf_up (gf_up (gf_trans (gf_mono hg12 (fun j hj => by simp only [List.mem_cons, List.not_mem_nil, or_false] at hj ⊢; omega)) (gf_mono hg4 (fun j hj => by simp only [List.mem_cons, List.not_mem_nil, or_false] at hj ⊢; omega))) (by simp)) (by simp)) ⟨h5, pk_us, by decide, (pk_un (by decide)).trans pk_us⟩ (mTa_fr hM4 hf5 (fun j hj => by simp only [List.mem_cons, List.not_mem_nil, or_false] at hj; omega)) ha4)
          · exact hbad k pl T4 J4 M4 _ (by unfold rdMe; rw [e1]; dsimp only; rw [if_neg hid, e2]; dsimp only; rw [if_neg (by omega), e4]) (fr_trans hf12 hf4) (gf_trans (gf_mono hg12 (fun j hj => by simp only [List.mem_cons, List.not_mem_nil, or_false] at hj ⊢; omega)) (gf_mono hg4 (fun j hj => by simp only [List.mem_cons, List.not_mem_nil, or_false] at hj ⊢; omega))) h4 hM4 ha4
        · replace c1 := n_le_f (a := n) (b := 10) (by omega) (by omega) c1
          iterate 3 refine wp_step rfl rfl ?_
          refine wp_c0 rfl rfl (by decide) rfl (recv_ok h2.1 rfl) rfl (q_mwrong h2.1 h2.2.2.2.2.2.1 (fun T3 hf3 h3 => ?_))
          exact mm_76 ⟨h3, pk_us, by decide, (pk_un (by decide)).trans pk_us⟩ (hbad 4 p2 T3 _ M _ (by unfold rdMe; rw [e1]; dsimp only; rw [if_neg hid, e2]; dsimp only; rw [if_pos c1]) (fr_trans hf12 (fr_mono hf3 (fun j hj => by simp only [List.mem_cons, List.not_mem_nil, or_false] at hj ⊢; omega))) (gf_up (gf_up (gf_mono hg12 (fun j hj => by simp only [List.mem_cons, List.not_mem_nil, or_false] at hj ⊢; omega)) (by simp)) (by simp)) ⟨h3, pk_us, by decide, (pk_un (by decide)).trans pk_us⟩ (mTa_fr hM2 hf3 (fun j hj => by simp only [List.mem_cons, List.not_mem_nil, or_false] at hj; omega)) (magS_refl _ _))
      · iterate 2 refine wp_step rfl rfl ?_
        exact mm_55 (z5 := 0) h2 (hbad 2 p2 T2 J2 M _ (by unfold rdMe; rw [e1]; dsimp only; rw [if_neg hid, e2]) (fr_trans (fr_mono hf1 (fun j hj => by simp only [List.mem_cons, List.not_mem_nil, or_false] at hj ⊢; omega)) (fr_mono hf2 (fun j hj => by simp only [List.mem_cons, List.not_mem_nil, or_false] at hj ⊢; omega))) (gf_trans (gf_mono hg1 (fun j hj => by simp only [List.mem_cons, List.not_mem_nil, or_false] at hj ⊢; omega)) (gf_mono hg2 (fun j hj => by simp only [List.mem_cons, List.not_mem_nil, or_false] at hj ⊢; omega))) h2 (mTa_fr hM1 hf2 (fun j hj => by simp only [List.mem_cons, List.not_mem_nil, or_false] at hj; omega)) (magS_refl _ _))
    · replace c0 := l_eq_f c0
      have hid : id ≠ 0 := fun h9 => c0 (by rw [h9]; rfl)
      iterate 3 refine wp_step rfl rfl ?_
      refine wp_getg (v := (.int (nI p1))) rfl h1.1 (by decide) (congrArg Value.int h57) ?_
      refine wp_c0 rfl rfl (by decide) rfl (recv_ok h1.1 rfl) rfl (q_mwrong h1.1 h1.2.2.2.2.2.1 (fun T2 hf2 h2 => ?_))
      exact mm_32 ⟨h2, pk_us, by decide, (pk_un (by decide)).trans pk_us⟩ ⟨p2, (pk_un (by decide)).trans ((pk_un (by decide)).trans h1.2.2.2.1)⟩ (hbad 3 p1 T2 _ M _ (by unfold rdMe; rw [e1]; dsimp only; rw [if_pos hid]) (fr_trans (fr_mono hf1 (fun j hj => by simp only [List.mem_cons, List.not_mem_nil, or_false] at hj ⊢; omega)) (fr_mono hf2 (fun j hj => by simp only [List.mem_cons, List.not_mem_nil, or_false] at hj ⊢; omega))) (gf_up (gf_up (gf_mono hg1 (fun j hj => by simp only [List.mem_cons, List.not_mem_nil, or_false] at hj ⊢; omega)) (by simp)) (by simp)) ⟨h2, pk_us, by decide, (pk_un (by decide)).trans pk_us⟩ (mTa_fr hM1 hf2 (fun j hj => by simp only [List.mem_cons, List.not_mem_nil, or_false] at hj; omega)) (magS_refl _ _))
  · refine wp_step rfl rfl ?_
    refine wp_step rfl rfl ?_
    refine wp_getg (v := (.int k)) rfl h1.1 (by decide) (congrArg Value.int h1.2.1) ?_
    refine wp_if_t rfl (c1_ne0 h1.2.2.1) ?_
    exact mm_32 h1 hq1 (hbad k pl T J M li2 (by unfold rdMe; rw [e1]) (fr_mono hf1 (fun j hj => by simp only [List.mem_cons, List.not_mem_nil, or_false] at hj ⊢; omega)) hg1 h1 (mTa_fr hM hf1 (fun j hj => by simp only [List.mem_cons, List.not_mem_nil, or_false] at hj; omega)) (magS_refl _ _))
end MMETA
