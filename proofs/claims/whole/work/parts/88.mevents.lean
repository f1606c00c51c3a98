/-! THE MODEL: a chunk's events -/
section MEV
variable {X : Nat × (Nat → Int32)} {d : Nat} {Q : am_R → Prop} {st : Int64} {b : Nat → Nat} {w ci s e : Nat} {τ : jTT} {M : jMT}
theorem mx_284 {T : am_S} {J : Nat → Int32} {k : Int32} {pl : Nat} {li : Int64} {z3 z4 z5 : Int32} {x6 x7 x8 : Option Value} (hx : mX T J st li k pl) (hq : Q (.inl (some (.int (nI e))), T)) : wp X d 114 284 [some (.ref 408), some (.int (nI s)), some (.int (nI e)), some (.int z3), some (.int z4), some (.int z5), x6, x7, x8] [] T Q := by
  refine wp_step rfl rfl ?_
  refine wp_getg (v := (.int k)) rfl hx.1 (by decide) (congrArg Value.int hx.2.1) ?_
  refine wp_if_t rfl (c1_ne0 hx.2.2.1) ?_
  refine wp_step rfl rfl ?_
  refine wp_iret rfl rfl rfl hq
theorem mx_170 {T : am_S} {J : Nat → Int32} {k : Int32} {pl : Nat} {li : Int64} {z3 z4 z5 : Int32} {x6 x7 x8 : Option Value} (hx : mX T J st li k pl) (hq : Q (.inl (some (.int (nI e))), T)) : wp X d 114 170 [some (.ref 408), some (.int (nI s)), some (.int (nI e)), some (.int z3), some (.int z4), some (.int z5), x6, x7, x8] [] T Q := by
  iterate 2 refine wp_step rfl rfl ?_
  refine wp_icmp rfl (fun c0 => ?_) (fun c0 => ?_)
  · exact mx_284 hx hq
  · refine wp_step rfl rfl ?_
    refine wp_getg (v := (.int k)) rfl hx.1 (by decide) (congrArg Value.int hx.2.1) ?_
    refine wp_if_t rfl (c1_ne0 hx.2.2.1) ?_
    exact mx_284 hx hq
theorem mx_277 {T : am_S} {J : Nat → Int32} {k : Int32} {pl : Nat} {li : Int64} {z3 z4 z5 : Int32} {z6 : Int32} {x7 x8 : Option Value} (hx : mX T J st li k pl) (hq : Q (.inl (some (.int (nI e))), T)) : wp X d 114 277 [some (.ref 408), some (.int (nI s)), some (.int (nI e)), some (.int z3), some (.int z4), some (.int z5), some (.int z6), x7, x8] [] T Q := by
  iterate 3 refine wp_step rfl rfl ?_
  exact mx_170 hx hq
theorem mx_245 {T : am_S} {J : Nat → Int32} {k : Int32} {pl : Nat} {li : Int64} {z3 z4 z5 : Int32} {z6 : Int32} {x7 x8 : Option Value} (hx : mX T J st li k pl) (hq : Q (.inl (some (.int (nI e))), T)) : wp X d 114 245 [some (.ref 408), some (.int (nI s)), some (.int (nI e)), some (.int z3), some (.int z4), some (.int z5), some (.int z6), x7, x8] [] T Q := by
  refine wp_step rfl rfl ?_
  refine wp_getg (v := (.int k)) rfl hx.1 (by decide) (congrArg Value.int hx.2.1) ?_
  refine wp_if_t rfl (c1_ne0 hx.2.2.1) ?_
  exact mx_277 hx hq
theorem mx_198 {T : am_S} {J : Nat → Int32} {k : Int32} {pl : Nat} {li : Int64} {z3 z4 z5 : Int32} {z6 : Int32} {x7 x8 : Option Value} (hx : mX T J st li k pl) (hq : Q (.inl (some (.int (nI e))), T)) : wp X d 114 198 [some (.ref 408), some (.int (nI s)), some (.int (nI e)), some (.int z3), some (.int z4), some (.int z5), some (.int z6), x7, x8] [] T Q := by
  refine wp_step rfl rfl ?_
  refine wp_getg (v := (.int k)) rfl hx.1 (by decide) (congrArg Value.int hx.2.1) ?_
  refine wp_if_t rfl (c1_ne0 hx.2.2.1) ?_
  refine wp_step rfl rfl ?_
  refine wp_getg (v := (.int k)) rfl hx.1 (by decide) (congrArg Value.int hx.2.1) ?_
  refine wp_if_t rfl (c1_ne0 hx.2.2.1) ?_
  exact mx_245 hx hq
set_option maxHeartbeats 2000000 in
theorem me_loop {z3 : Int32} (hb : ∀ j, b j < 256) (hw : w ≤ 1) (he : e ≤ 960) (hwf : wfT τ) (hfh : fht τ) (hnc : nocyc τ) (hT : mTy M (4 * w + ci) τ) (hci : ci < 4) : ∀ (f q n : Nat) (cps : List jCp) (ks : List jK) (evs : List jEv) (S : am_S) (I : Nat → Int32) (li : Int64) (K : jMK) (E : jME) (x6 x7 x8 : Option Value), e ≤ q + 2 * f → q ≤ 960 → ks.length ≤ 40 → evs.length ≤ 60 → am_get S 408 = some (moC I st li) → mBy S b w → I 19 = nI w → I 25 = 0 → mSk S K → mV I true n → I 20 = nI (4 * w + ci) → mTa S M → mEA S E → mEs E w evs →
    (∀ n' cps' ks' evs' T J li' K' E', rdEs τ b ci e f q (n, cps, ks, evs) = .inr (n', cps', ks', evs') → fr [408, 414, 415, 416, 425, 426, 427] S T → gf [21, 22, 24, 29, 57] I J → am_get T 408 = some (moC J st li') → mSk T K' → mV J true n' → mEA T E' → mEs E' w evs' → mEo E E' w → evs'.length ≤ 60 → ks'.length ≤ 40 → ∀ z4 z5 x6 x7 x8, wp X (d + 9) 114 284 [some (.ref 408), some (.int (nI s)), some (.int (nI e)), some (.int z3), some (.int z4), some (.int z5), x6, x7, x8] [] T Q) →
    (∀ k pl T J li' K' E', rdEs τ b ci e f q (n, cps, ks, evs) = .inl (k, pl) → fr [408, 414, 415, 416, 425, 426, 427] S T → gf [21, 22, 24, 25, 26, 29, 57] I J → mX T J st li' k pl → mSk T K' → mEA T E' → mEo E E' w → Q (.inl (some (.int (nI e))), T)) → wp X (d + 9) 114 170 [some (.ref 408), some (.int (nI s)), some (.int (nI e)), some (.int z3), some (.int (nI ks.length)), some (.int (nI q)), x6, x7, x8] [] S Q := by
  intro f
  induction f with
  | zero =>
    intro q n cps ks evs S I li K E x6 x7 x8 hf hq9 h40 h60 h hB h19 h25 hK hV h20 hM hE hEs hret hbad
    iterate 2 refine wp_step rfl rfl ?_
    refine wp_icmp rfl (fun c0 => ?_) (fun c0 => ?_)
    · replace c0 := n_ge_t (a := q) (b := e) (by omega) (by omega) c0
      exact hret n cps ks evs S I li K E rfl (fr_refl _ _) (gf_refl _ _) h hK hV hE hEs (mEo_refl _ _) h60 h40 _ _ _ _ _
    · replace c0 := n_ge_f (a := q) (b := e) (by omega) (by omega) c0
      omega
  | succ f ih =>
    intro q n cps ks evs S I li K E x6 x7 x8 hf hq9 h40 h60 h hB h19 h25 hK hV h20 hM hE hEs hret hbad
    iterate 2 refine wp_step rfl rfl ?_
    refine wp_icmp rfl (fun c0 => ?_) (fun c0 => ?_)
    · replace c0 := n_ge_t (a := q) (b := e) (by omega) (by omega) c0
      exact hret n cps ks evs S I li K E (by rw [rdEs, if_pos c0]) (fr_refl _ _) (gf_refl _ _) h hK hV hE hEs (mEo_refl _ _) h60 h40 _ _ _ _ _
    · replace c0 := n_ge_f (a := q) (b := e) (by omega) (by omega) c0
      have c0n : ¬ e ≤ q := by omega
      refine wp_step rfl rfl ?_
      refine wp_getg (v := (.int 0)) rfl h (by decide) (congrArg Value.int h25) ?_
      refine wp_if_f rfl rfl ?_
      iterate 3 refine wp_step rfl rfl ?_
      refine wp_c0 rfl rfl (by decide) rfl (recv_ok h rfl) rfl (q_mbegins hb h hB h19 h25 hw (by omega) he (fun len id p1 p2 T1 J1 e1 hf1 hg1 h57 h1 => ?_) (fun k pl T1 J1 li1 e1 hf1 hg1 h1 hq1 => ?_))
      · have hho := hd_ok e1
        have hf1J : fr [408, 414, 415, 416, 425, 426, 427] S T1 := fr_mono hf1 (fun j hj => by simp only [List.mem_cons, List.not_mem_nil, or_false] at hj ⊢; omega)
        have hg1L : gf [21, 22, 24, 29, 57] I J1 := gf_mono hg1 (fun j hj => by simp only [List.mem_cons, List.not_mem_nil, or_false] at hj ⊢; omega)
        have hK1 := mSk_fr hK hf1 (fun j hj => by simp only [List.mem_cons, List.not_mem_nil, or_false] at hj; omega)
        have hE1' := mEA_fr hE hf1 (fun j hj => by simp only [List.mem_cons, List.not_mem_nil, or_false] at hj; omega)
        have hM1 := mTa_fr hM hf1 (fun j hj => by simp only [List.mem_cons, List.not_mem_nil, or_false] at hj; omega)
        have hV1 := mV_gf hV hg1 (by decide) (by decide)
        have h201 : J1 20 = nI (4 * w + ci) := (hg1 20 (by decide)).trans h20
        refine wp_step rfl rfl ?_
        refine wp_step rfl rfl ?_
        refine wp_getg (v := (.long (lN id))) rfl h1.1 (by decide) rfl ?_
        refine wp_step rfl rfl ?_
        show wp X (d + 9) 114 198 [some (.ref 408), some (.int (nI s)), some (.int (nI e)), some (.int z3), some (.int (nI ks.length)), some (.int (nI q)), some (.int (nI (q + len))), some (.long (lN id)), none] [] T1 Q
        refine wp_step rfl rfl ?_
        refine wp_getg (v := (.int 0)) rfl h1.1 (by decide) (congrArg Value.int h1.2.2.2.2.2.1) ?_
        refine wp_if_f rfl rfl ?_
        iterate 3 refine wp_step rfl rfl ?_
        refine wp_if rfl (fun c1 => ?_) (fun c1 => ?_)
        · replace c1 := l_ne_t c1
          have hid1 : id ≠ 1 := fun e9 => c1 ((lN_eq (a := id) (b := 1) (by omega) (by decide)).mpr e9)
          refine wp_step rfl rfl ?_
          refine wp_getg (v := (.int 0)) rfl h1.1 (by decide) (congrArg Value.int h1.2.2.2.2.2.1) ?_
          refine wp_if_f rfl rfl ?_
          iterate 3 refine wp_step rfl rfl ?_
          refine wp_if rfl (fun c2 => ?_) (fun c2 => ?_)
          · replace c2 := l_eq_t c2
            have hid0 : id = 0 := (lN_eq (a := id) (b := 0) (by omega) (by decide)).mp c2
            refine wp_step rfl rfl ?_
            refine wp_getg (v := (.int 0)) rfl h1.1 (by decide) (congrArg Value.int h1.2.2.2.2.2.1) ?_
            refine wp_if_f rfl rfl ?_
            iterate 3 refine wp_step rfl rfl ?_
            refine wp_if rfl (fun c3 => ?_) (fun c3 => ?_)
            · replace c3 := l_eq_t c3
              obtain ⟨T2, hT2⟩ : ∃ T2, T2 = T1 := ⟨T1, rfl⟩
              obtain ⟨J2, hJ2⟩ : ∃ J2, J2 = J1 := ⟨J1, rfl⟩
              obtain ⟨K2, hK2e⟩ : ∃ K2, K2 = K := ⟨K, rfl⟩
              obtain ⟨E2, hE2e⟩ : ∃ E2, E2 = E := ⟨E, rfl⟩
              rw [← hT2] at h1 hf1J hK1 hE1'
              rw [← hJ2] at h1 hg1L hV1
              rw [← hK2e] at hK1
              rw [← hE2e] at hE1'
              rw [← hT2]
              have h2 := h1
              have hf02 := hf1J
              have hg02 := hg1L
              have hK2 := hK1
              have hV2 := hV1
              have hE2 := hE1'
              have hEs2 : mEs E2 w evs := by rw [hE2e]; exact hEs
              have hEo2 : mEo E E2 w := by rw [hE2e]; exact mEo_refl E w
              have h602 := h60
              have h402 := h40
              iterate 3 refine wp_step rfl rfl ?_
              have hrd : rdEs τ b ci e (f + 1) q (n, cps, ks, evs) = rdEs τ b ci e f (q + len) (n, cps, ks, evs) := (by rw [rdEs, if_neg c0n, rdE1, e1]; dsimp only; rw [if_neg hid1, if_pos hid0])
              refine ih (q + len) _ _ _ _ T2 J2 _ K2 E2 _ _ _ (by omega) (by omega) h402 h602 h2.1 h2.2.1 h2.2.2.1 h2.2.2.2.2.2.1 hK2 hV2 ((hg02 20 (by decide)).trans h20) (mTa_fr hM hf02 (fun j hj => by simp only [List.mem_cons, List.not_mem_nil, or_false] at hj; omega)) hE2 hEs2 (fun n9 cps9 ks9 evs9 T9 J9 li9 K9 E9 e9 hf9 hg9 h9 hK9 hV9 hE9 hEs9 hEo9 h609 h409 => hret n9 cps9 ks9 evs9 T9 J9 li9 K9 E9 (hrd.trans e9) (fr_trans hf02 hf9) (gf_trans hg02 hg9) h9 hK9 hV9 hE9 hEs9 (mEo_trans hEo2 hEo9) h609 h409) (fun k pl T9 J9 li9 K9 E9 e9 hf9 hg9 h9 hK9 hE9 hEo9 => hbad k pl T9 J9 li9 K9 E9 (hrd.trans e9) (fr_trans hf02 hf9) (gf_trans (gf_mono hg02 (fun j hj => by simp only [List.mem_cons, List.not_mem_nil, or_false] at hj ⊢; omega)) hg9) h9 hK9 hE9 (mEo_trans hEo2 hEo9))
            · replace c3 := l_eq_f c3
              exact absurd c2 c3
          · replace c2 := l_eq_f c2
            have hid0 : id ≠ 0 := fun e9 => c2 ((lN_eq (a := id) (b := 0) (by omega) (by decide)).mpr e9)
            iterate 3 refine wp_step rfl rfl ?_
            refine wp_c0 rfl rfl (by decide) rfl (recv_ok h1.1 rfl) rfl (q_mtold (d := d + 1) (q := q) hb hwf hfh hnc hT hci (by omega) h60 h1 hK1 hV1 h201 h57 hM1 hE1' hEs (fun tk p3 p' n' T2 J2 K2 E2 e2 hf2 hg2 h2 hK2 hV2 hE2 hEs2 hEo2 => ?_) (fun k pl T2 J2 K2 E2 e2 hf2 hg2 h2 hK2 hE2 hEo2 => ?_))
            · have hf02 : fr [408, 414, 415, 416, 425, 426, 427] S T2 := fr_trans hf1J hf2
              have hg02 : gf [21, 22, 24, 29, 57] I J2 := gf_trans hg1L (gf_mono hg2 (fun j hj => by simp only [List.mem_cons, List.not_mem_nil, or_false] at hj ⊢; omega))
              have h602 : (evs ++ [((ci, q, tk, id, p3, n) : jEv)]).length ≤ 60 := by
                have : evs.length ≠ 60 := by
                  intro h9
                  unfold rdV at e2
                  split at e2
                  · cases e2
                  · first | cases e2 | (rw [if_pos h9] at e2; cases e2)
                simp
                omega
              have h402 := h40
              have hE1 : rdE1 τ b ci e q (n, cps, ks, evs) = if p' < q + len then .inl (5, p') else .inr (q + len, n', cps, ks, evs ++ [(ci, q, tk, id, p3, n)]) := by
                rw [rdE1, e1]
                dsimp only
                rw [if_neg hid1, if_neg hid0, e2]
              have hp9 : p' ≤ 960 := h2.2.2.2.2.2.2.2.1
              show wp X (d + 9) 114 245 [some (.ref 408), some (.int (nI s)), some (.int (nI e)), some (.int z3), some (.int (nI ks.length)), some (.int (nI q)), some (.int (nI (q + len))), some (.long (lN id)), none] [] T2 Q
              refine wp_step rfl rfl ?_
              refine wp_getg (v := (.int 0)) rfl h2.1 (by decide) (congrArg Value.int h2.2.2.2.2.2.1) ?_
              refine wp_if_f rfl rfl ?_
              iterate 3 refine wp_step rfl rfl ?_
              refine wp_if rfl (fun c7 => ?_) (fun c7 => ?_)
              · replace c7 := l_eq_t c7
                exact absurd ((lN_eq (a := id) (b := 0) (by omega) (by decide)).mp c7) hid0
              · replace c7 := l_eq_f c7
                refine wp_step rfl rfl ?_
                refine wp_getg (v := (.int (nI p'))) rfl h2.1 (by decide) (congrArg Value.int h2.2.2.2.1) ?_
                refine wp_step rfl rfl ?_
                refine wp_icmp rfl (fun c8 => ?_) (fun c8 => ?_)
                · replace c8 := n_ge_t (a := p') (b := q + len) (by omega) (by omega) c8
                  iterate 3 refine wp_step rfl rfl ?_
                  have hrd : rdEs τ b ci e (f + 1) q (n, cps, ks, evs) = rdEs τ b ci e f (q + len) (n', cps, ks, evs ++ [(ci, q, tk, id, p3, n)]) := (by rw [rdEs, if_neg c0n, hE1, if_neg (by omega)])
                  refine ih (q + len) _ _ _ _ T2 J2 _ K2 E2 _ _ _ (by omega) (by omega) h402 h602 h2.1 h2.2.1 h2.2.2.1 h2.2.2.2.2.2.1 hK2 hV2 ((hg02 20 (by decide)).trans h20) (mTa_fr hM hf02 (fun j hj => by simp only [List.mem_cons, List.not_mem_nil, or_false] at hj; omega)) hE2 hEs2 (fun n9 cps9 ks9 evs9 T9 J9 li9 K9 E9 e9 hf9 hg9 h9 hK9 hV9 hE9 hEs9 hEo9 h609 h409 => hret n9 cps9 ks9 evs9 T9 J9 li9 K9 E9 (hrd.trans e9) (fr_trans hf02 hf9) (gf_trans hg02 hg9) h9 hK9 hV9 hE9 hEs9 (mEo_trans hEo2 hEo9) h609 h409) (fun k pl T9 J9 li9 K9 E9 e9 hf9 hg9 h9 hK9 hE9 hEo9 => hbad k pl T9 J9 li9 K9 E9 (hrd.trans e9) (fr_trans hf02 hf9) (gf_trans (gf_mono hg02 (fun j hj => by simp only [List.mem_cons, List.not_mem_nil, or_false] at hj ⊢; omega)) hg9) h9 hK9 hE9 (mEo_trans hEo2 hEo9))
                · replace c8 := n_ge_f (a := p') (b := q + len) (by omega) (by omega) c8
                  iterate 3 refine wp_step rfl rfl ?_
                  refine wp_getg (v := (.int (nI p'))) rfl h2.1 (by decide) (congrArg Value.int h2.2.2.2.1) ?_
                  refine wp_c0 rfl rfl (by decide) rfl (recv_ok h2.1 rfl) rfl (q_mwrong h2.1 h2.2.2.2.2.2.1 (fun T3 hf3 h3 => ?_))
                  have hx3 : mX T3 (upd (upd J2 26 (nI p')) 25 (Int32.ofInt 5)) st (lN id) 5 p' := ⟨h3, pk_us, by decide, (pk_un (by decide)).trans pk_us⟩
                  exact mx_277 hx3 (hbad 5 p' T3 _ _ K2 E2 (by rw [rdEs, if_neg c0n, hE1, if_pos c8]) (fr_trans hf02 (fr_mono hf3 (fun j hj => by simp only [List.mem_cons, List.not_mem_nil, or_false] at hj ⊢; omega))) (gf_up (gf_up (gf_mono hg02 (fun j hj => by simp only [List.mem_cons, List.not_mem_nil, or_false] at hj ⊢; omega)) (by simp)) (by simp)) hx3 (mSk_fr hK2 hf3 (fun j hj => by simp only [List.mem_cons, List.not_mem_nil, or_false] at hj; omega)) (mEA_fr hE2 hf3 (fun j hj => by simp only [List.mem_cons, List.not_mem_nil, or_false] at hj; omega)) hEo2)
            · exact mx_245 h2 (hbad k pl T2 J2 _ K2 E2 (by rw [rdEs, if_neg c0n, rdE1, e1]; dsimp only; rw [if_neg hid1, if_neg hid0, e2]) (fr_trans hf1J hf2) (gf_trans (gf_mono hg1 (fun j hj => by simp only [List.mem_cons, List.not_mem_nil, or_false] at hj ⊢; omega)) (gf_mono hg2 (fun j hj => by simp only [List.mem_cons, List.not_mem_nil, or_false] at hj ⊢; omega))) h2 hK2 hE2 hEo2)
        · replace c1 := l_ne_f c1
          have hid1 : id = 1 := (lN_eq (a := id) (b := 1) (by omega) (by decide)).mp c1
          have hid0 : id ≠ 0 := by omega
          iterate 2 refine wp_step rfl rfl ?_
          refine wp_c0 rfl rfl (by decide) rfl (recv_ok h1.1 rfl) rfl (q_mcp (d := d) hb hwf hfh hnc hT (by omega) h40 h1 hK1 hV1 h201 hM1 (fun dl p' n' ks' T2 J2 K2 e2 hf2 hg2 h2 hK2 hV2 h402 => ?_) (fun k pl zz T2 J2 K2 e2 hf2 hg2 h2 hK2 => ?_))
          · iterate 2 refine wp_step rfl rfl ?_
            have hf02 : fr [408, 414, 415, 416, 425, 426, 427] S T2 := fr_trans hf1J (fr_mono hf2 (fun j hj => by simp only [List.mem_cons, List.not_mem_nil, or_false] at hj ⊢; omega))
            have hg02 : gf [21, 22, 24, 29, 57] I J2 := gf_trans hg1L (gf_mono hg2 (fun j hj => by simp only [List.mem_cons, List.not_mem_nil, or_false] at hj ⊢; omega))
            have hE2 : mEA T2 E := mEA_fr hE1' hf2 (fun j hj => by simp only [List.mem_cons, List.not_mem_nil, or_false] at hj; omega)
            have hEs2 := hEs
            have hEo2 := mEo_refl E w
            have h602 := h60
            have hE1 : rdE1 τ b ci e q (n, cps, ks, evs) = if p' < q + len then .inl (5, p') else .inr (q + len, n', cps ++ [(q, dl, p2, ks'.length)], ks', evs) := by
              rw [rdE1, e1]
              dsimp only
              rw [if_pos hid1, e2]
            obtain ⟨E2, hE2e⟩ : ∃ E2, E2 = E := ⟨E, rfl⟩
            rw [← hE2e] at hE2 hEs2
            rw [show mEo E E w ↔ mEo E E2 w by rw [hE2e]] at hEo2
            have hp9 : p' ≤ 960 := h2.2.2.2.2.2.2.2.1
            show wp X (d + 9) 114 245 [some (.ref 408), some (.int (nI s)), some (.int (nI e)), some (.int z3), some (.int (nI ks'.length)), some (.int (nI q)), some (.int (nI (q + len))), some (.long (lN id)), none] [] T2 Q
            refine wp_step rfl rfl ?_
            refine wp_getg (v := (.int 0)) rfl h2.1 (by decide) (congrArg Value.int h2.2.2.2.2.2.1) ?_
            refine wp_if_f rfl rfl ?_
            iterate 3 refine wp_step rfl rfl ?_
            refine wp_if rfl (fun c7 => ?_) (fun c7 => ?_)
            · replace c7 := l_eq_t c7
              exact absurd ((lN_eq (a := id) (b := 0) (by omega) (by decide)).mp c7) hid0
            · replace c7 := l_eq_f c7
              refine wp_step rfl rfl ?_
              refine wp_getg (v := (.int (nI p'))) rfl h2.1 (by decide) (congrArg Value.int h2.2.2.2.1) ?_
              refine wp_step rfl rfl ?_
              refine wp_icmp rfl (fun c8 => ?_) (fun c8 => ?_)
              · replace c8 := n_ge_t (a := p') (b := q + len) (by omega) (by omega) c8
                iterate 3 refine wp_step rfl rfl ?_
                have hrd : rdEs τ b ci e (f + 1) q (n, cps, ks, evs) = rdEs τ b ci e f (q + len) (n', cps ++ [(q, dl, p2, ks'.length)], ks', evs) := (by rw [rdEs, if_neg c0n, hE1, if_neg (by omega)])
                refine ih (q + len) _ _ _ _ T2 J2 _ K2 E2 _ _ _ (by omega) (by omega) h402 h602 h2.1 h2.2.1 h2.2.2.1 h2.2.2.2.2.2.1 hK2 hV2 ((hg02 20 (by decide)).trans h20) (mTa_fr hM hf02 (fun j hj => by simp only [List.mem_cons, List.not_mem_nil, or_false] at hj; omega)) hE2 hEs2 (fun n9 cps9 ks9 evs9 T9 J9 li9 K9 E9 e9 hf9 hg9 h9 hK9 hV9 hE9 hEs9 hEo9 h609 h409 => hret n9 cps9 ks9 evs9 T9 J9 li9 K9 E9 (hrd.trans e9) (fr_trans hf02 hf9) (gf_trans hg02 hg9) h9 hK9 hV9 hE9 hEs9 (mEo_trans hEo2 hEo9) h609 h409) (fun k pl T9 J9 li9 K9 E9 e9 hf9 hg9 h9 hK9 hE9 hEo9 => hbad k pl T9 J9 li9 K9 E9 (hrd.trans e9) (fr_trans hf02 hf9) (gf_trans (gf_mono hg02 (fun j hj => by simp only [List.mem_cons, List.not_mem_nil, or_false] at hj ⊢; omega)) hg9) h9 hK9 hE9 (mEo_trans hEo2 hEo9))
              · replace c8 := n_ge_f (a := p') (b := q + len) (by omega) (by omega) c8
                iterate 3 refine wp_step rfl rfl ?_
                refine wp_getg (v := (.int (nI p'))) rfl h2.1 (by decide) (congrArg Value.int h2.2.2.2.1) ?_
                refine wp_c0 rfl rfl (by decide) rfl (recv_ok h2.1 rfl) rfl (q_mwrong h2.1 h2.2.2.2.2.2.1 (fun T3 hf3 h3 => ?_))
                have hx3 : mX T3 (upd (upd J2 26 (nI p')) 25 (Int32.ofInt 5)) st (lN id) 5 p' := ⟨h3, pk_us, by decide, (pk_un (by decide)).trans pk_us⟩
                exact mx_277 hx3 (hbad 5 p' T3 _ _ K2 E2 (by rw [rdEs, if_neg c0n, hE1, if_pos c8]) (fr_trans hf02 (fr_mono hf3 (fun j hj => by simp only [List.mem_cons, List.not_mem_nil, or_false] at hj ⊢; omega))) (gf_up (gf_up (gf_mono hg02 (fun j hj => by simp only [List.mem_cons, List.not_mem_nil, or_false] at hj ⊢; omega)) (by simp)) (by simp)) hx3 (mSk_fr hK2 hf3 (fun j hj => by simp only [List.mem_cons, List.not_mem_nil, or_false] at hj; omega)) (mEA_fr hE2 hf3 (fun j hj => by simp only [List.mem_cons, List.not_mem_nil, or_false] at hj; omega)) hEo2)
          · iterate 2 refine wp_step rfl rfl ?_
            exact mx_245 h2 (hbad k pl T2 J2 _ K2 E (by rw [rdEs, if_neg c0n, rdE1, e1]; dsimp only; rw [if_pos hid1, e2]) (fr_trans hf1J (fr_mono hf2 (fun j hj => by simp only [List.mem_cons, List.not_mem_nil, or_false] at hj ⊢; omega))) (gf_trans (gf_mono hg1 (fun j hj => by simp only [List.mem_cons, List.not_mem_nil, or_false] at hj ⊢; omega)) (gf_mono hg2 (fun j hj => by simp only [List.mem_cons, List.not_mem_nil, or_false] at hj ⊢; omega))) h2 hK2 (mEA_fr hE1' hf2 (fun j hj => by simp only [List.mem_cons, List.not_mem_nil, or_false] at hj; omega)) (mEo_refl _ _))
      · refine wp_step rfl rfl ?_
        refine wp_step rfl rfl ?_
        refine wp_getg (v := (.long li1)) rfl h1.1 (by decide) rfl ?_
        refine wp_step rfl rfl ?_
        exact mx_198 h1 (hbad k pl T1 J1 li1 K E (by rw [rdEs, if_neg c0n, rdE1, e1]) (fr_mono hf1 (fun j hj => by simp only [List.mem_cons, List.not_mem_nil, or_false] at hj ⊢; omega)) (gf_mono hg1 (fun j hj => by simp only [List.mem_cons, List.not_mem_nil, or_false] at hj ⊢; omega)) h1 (mSk_fr hK hf1 (fun j hj => by simp only [List.mem_cons, List.not_mem_nil, or_false] at hj; omega)) (mEA_fr hE hf1 (fun j hj => by simp only [List.mem_cons, List.not_mem_nil, or_false] at hj; omega)) (mEo_refl _ _))
end MEV
