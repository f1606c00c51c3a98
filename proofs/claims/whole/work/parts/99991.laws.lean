/-! THE LAW: feed, fault, chunks, type, misfit, group -/
section LAWS
variable {X : Nat × (Nat → Int32)} {d i : Nat} {Q : am_R → Prop} {S : am_S} {x5 x6 x7 : Option Value}
set_option maxRecDepth 8192 in
set_option maxHeartbeats 2000000 in
theorem lc_feed (hi : i + 4 ≤ X.1) (hL : X.1 ≤ 2048) (h : lwI S i) (hn : ∀ T y5 y6 y7, lwI T (i + 4) → wp X (d + 30) 176 852 [some (.ref 1000000), some (.ref 0), some (.ref 408), some (.ref 440), some (.int (nI i)), y5, y6, y7] [] T Q) : wp X (d + 30) 176 112 [some (.ref 1000000), some (.ref 0), some (.ref 408), some (.ref 440), some (.int (nI i)), x5, x6, x7] [] S Q := by
  obtain ⟨rec, sp, v0, mp, fk, fp, fs, xs, cs, b, tot, re, gs, B, hC, hM, hp, hO, hr⟩ := h
  obtain ⟨hfs, hfb, hx60, hxe, hcs40, hcs, hb, hB, htot, hRq, hP, hE, hcq, hgl, hgB, hev60⟩ := id hp
  obtain ⟨g0, hg0⟩ := hO
  have h0 := hC.2.1
  obtain ⟨t0, pos, lim, idp, h1, hbd⟩ := hC.2.2.1
  obtain ⟨fb, h2, hD⟩ := hC.2.2.2.1
  iterate 5 refine wp_step rfl rfl ?_
  rw [show nI i + Int32.ofInt 1 = nI (i + 1) from nI_add i 1]
  refine wp_sld rfl (am_in_nI (by omega) (by omega)) ?_
  rw [nI_clamp (by omega)]
  iterate 4 refine wp_step rfl rfl ?_
  rw [show nI i + Int32.ofInt 2 = nI (i + 2) from nI_add i 2]
  refine wp_sld rfl (am_in_nI (by omega) (by omega)) ?_
  rw [nI_clamp (by omega)]
  refine wp_c0 rfl rfl (by decide) rfl (recv_ok h0 rfl) rfl (q_feed h0 hfs h1 h2 hD (fun e => ?_) (fun m fb2 T1 e hf1 h1b h2b hD2 => ?_))
  · have hM1 := hM
    have hC1 := hC
    have hr1 := hr
    have hg1 := hg0
    obtain ⟨I, st, li, M, E, C, K, F, ch, mb, g, P, hm, hx⟩ := hM1
    iterate 5 refine wp_step rfl rfl ?_
    rw [show nI i + Int32.ofInt 1 = nI (i + 1) from nI_add i 1]
    refine wp_sld rfl (am_in_nI (by omega) (by omega)) ?_
    rw [nI_clamp (by omega)]
    iterate 4 refine wp_step rfl rfl ?_
    rw [show nI i + Int32.ofInt 2 = nI (i + 2) from nI_add i 2]
    refine wp_sld rfl (am_in_nI (by omega) (by omega)) ?_
    rw [nI_clamp (by omega)]
    refine wp_c0 rfl rfl (by decide) rfl (recv_ok hm.1 rfl) rfl (q_mfeed hfs hm.1 hx.1 hx.2.1 hx.2.2.1 (fun e2 T J hf hg9 a j0 => ?_) (fun m2 F2 T J e2 hf hg9 a j0 j2 a9 hF2 => ?_))
    · 
      refine wp_icmp_t rfl rfl ?_
      exact hn _ _ _ _ ⟨rec, sp, v0, mp, fk, fp, fs, xs, cs, b, tot, re, gs, B, clI_fr hC1 hf (fun j hj => by simp only [List.mem_cons, List.not_mem_nil, or_false] at hj; omega), ⟨J, st, li, M, E, C, K, F, ch, mb, g, P, mRc_1 hm hf a hg9 (by decide) (by decide) (by decide), moX_up hx hf (fun j hj => by simp only [List.mem_cons, List.not_mem_nil, or_false] at hj; omega) a hg9 (by decide)⟩, hp, ⟨g0, by rw [fr_get hf (by decide)]; exact hg1⟩, roI_up (roI_fr hr1 hf) (by omega)⟩
    · rw [e] at e2; cases e2
  · have hM1 := moI_fr hM hf1 (fun j hj => by simp only [List.mem_cons, List.not_mem_nil, or_false] at hj; omega)
    have hC1 := clI_feed hC hf1 h1b hbd h2b hD2
    have hr1 := roI_fr hr hf1
    have hg1 : am_get T1 440 = some (lA 1 g0) := by rw [fr_get hf1 (by decide)]; exact hg0
    obtain ⟨I, st, li, M, E, C, K, F, ch, mb, g, P, hm, hx⟩ := hM1
    iterate 5 refine wp_step rfl rfl ?_
    rw [show nI i + Int32.ofInt 1 = nI (i + 1) from nI_add i 1]
    refine wp_sld rfl (am_in_nI (by omega) (by omega)) ?_
    rw [nI_clamp (by omega)]
    iterate 4 refine wp_step rfl rfl ?_
    rw [show nI i + Int32.ofInt 2 = nI (i + 2) from nI_add i 2]
    refine wp_sld rfl (am_in_nI (by omega) (by omega)) ?_
    rw [nI_clamp (by omega)]
    refine wp_c0 rfl rfl (by decide) rfl (recv_ok hm.1 rfl) rfl (q_mfeed hfs hm.1 hx.1 hx.2.1 hx.2.2.1 (fun e2 T J hf hg9 a j0 => ?_) (fun m2 F2 T J e2 hf hg9 a j0 j2 a9 hF2 => ?_))
    · rw [e] at e2; cases e2
    · rw [e] at e2; cases e2
      refine wp_icmp_t rfl rfl ?_
      have hm2 : mRc T J st li b v0 tot re M E C K := mRc_up hm hf (fun j hj => by simp only [List.mem_cons, List.not_mem_nil, or_false] at hj; omega) a hg9 (by decide) (by decide) (by decide) (mSk_fr hm.2.2.2.2.2.2.2.2.2.2.2.2.2.2.2.2 hf (fun j hj => by simp only [List.mem_cons, List.not_mem_nil, or_false] at hj; omega))
      obtain ⟨x1, x2, x3, x4, x5_, x6_, x7_, x8, x9, x10, x11, x12, x13, x14, x15, x16⟩ := hx
      have hx2 : moX T J st li F2 ch mb g P mp fk fp (fs ++ wb (X.2 (i + 1)) m) xs cs gs B := ⟨j2, a9, hF2, (hg9 27 (by decide)).trans x4, (hg9 28 (by decide)).trans x5_, (hg9 39 (by decide)).trans x6_, (hg9 45 (by decide)).trans x7_, by rw [fr_get hf (by decide)]; exact x8, x9, cmW_up x10 hf (fun j hj => by simp only [List.mem_cons, List.not_mem_nil, or_false] at hj; omega) a hg9 (by decide), by rw [fr_get hf (by decide)]; exact x11, (hg9 49 (by decide)).trans x12, mGr_fr x13 hf (fun j hj => by simp only [List.mem_cons, List.not_mem_nil, or_false] at hj; omega), x14, by rw [fr_get hf (by decide)]; exact x15, x16⟩
      have hfd := fdN_some e
      have hp2 : puI (fs ++ wb (X.2 (i + 1)) m) xs cs b tot re gs B := ⟨by rw [List.length_append, wb_len]; omega, fun x hx9 => by
          rcases List.mem_append.mp hx9 with q | q
          · exact hfb x q
          · exact wb_lt _ _ x q, hp.2.2⟩
      exact hn _ _ _ _ ⟨rec, sp, v0, mp, fk, fp, fs ++ wb (X.2 (i + 1)) m, xs, cs, b, tot, re, gs, B, clI_fr hC1 hf (fun j hj => by simp only [List.mem_cons, List.not_mem_nil, or_false] at hj; omega), ⟨J, st, li, M, E, C, K, F2, ch, mb, g, P, hm2, hx2⟩, hp2, ⟨g0, by rw [fr_get hf (by decide)]; exact hg1⟩, roI_up (roI_fr hr1 hf) (by omega)⟩
set_option maxRecDepth 8192 in
set_option maxHeartbeats 2000000 in
theorem lc_fault (hi : i + 4 ≤ X.1) (hL : X.1 ≤ 2048) (h : lwI S i) (hn : ∀ T y5 y6 y7, lwI T (i + 4) → wp X (d + 30) 176 852 [some (.ref 1000000), some (.ref 0), some (.ref 408), some (.ref 440), some (.int (nI i)), y5, y6, y7] [] T Q) : wp X (d + 30) 176 193 [some (.ref 1000000), some (.ref 0), some (.ref 408), some (.ref 440), some (.int (nI i)), x5, x6, x7] [] S Q := by
  obtain ⟨rec, sp, v0, mp, fk, fp, fs, xs, cs, b, tot, re, gs, B, hC, hM, hp, hO, hr⟩ := h
  obtain ⟨hfs, hfb, hx60, hxe, hcs40, hcs, hb, hB, htot, hRq, hP, hE, hcq, hgl, hgB, hev60⟩ := id hp
  obtain ⟨g0, hg0⟩ := hO
  have h0 := hC.2.1
  obtain ⟨t0, pos, lim, idp, h1, hbd⟩ := hC.2.2.1
  obtain ⟨I, st, li, M, E, C, K, F, ch, mb, g, P, hm, hx⟩ := id hM
  iterate 5 refine wp_step rfl rfl ?_
  rw [show nI i + Int32.ofInt 1 = nI (i + 1) from nI_add i 1]
  refine wp_sld rfl (am_in_nI (by omega) (by omega)) ?_
  rw [nI_clamp (by omega)]
  refine wp_c0 rfl rfl (by decide) rfl (recv_ok h0 rfl) rfl (q_fault h0 h1 ?_)
  iterate 5 refine wp_step rfl rfl ?_
  rw [show nI i + Int32.ofInt 1 = nI (i + 1) from nI_add i 1]
  refine wp_sld rfl (am_in_nI (by omega) (by omega)) ?_
  rw [nI_clamp (by omega)]
  refine wp_c0 rfl rfl (by decide) rfl (recv_ok hm.1 rfl) rfl (q_mfault hm.1 hx.2.2.2.1 hx.2.2.2.2.1 (fun T J hf hg9 a j0 => ?_))
  refine wp_icmp_t rfl (decide_eq_true rfl) ?_
  exact hn _ _ _ _ ⟨rec, sp, v0, mp, fk, fp, fs, xs, cs, b, tot, re, gs, B, clI_fr hC hf (fun j hj => by simp only [List.mem_cons, List.not_mem_nil, or_false] at hj; omega), ⟨J, st, li, M, E, C, K, F, ch, mb, g, P, mRc_1 hm hf a hg9 (by decide) (by decide) (by decide), moX_up hx hf (fun j hj => by simp only [List.mem_cons, List.not_mem_nil, or_false] at hj; omega) a hg9 (by decide)⟩, hp, ⟨g0, by rw [fr_get hf (by decide)]; exact hg0⟩, roI_up (roI_fr hr hf) (by omega)⟩
set_option maxRecDepth 8192 in
set_option maxHeartbeats 2000000 in
theorem lc_chunks (hi : i + 4 ≤ X.1) (hL : X.1 ≤ 2048) (h : lwI S i) (hn : ∀ T y5 y6 y7, lwI T (i + 4) → wp X (d + 30) 176 852 [some (.ref 1000000), some (.ref 0), some (.ref 408), some (.ref 440), some (.int (nI i)), y5, y6, y7] [] T Q) : wp X (d + 30) 176 218 [some (.ref 1000000), some (.ref 0), some (.ref 408), some (.ref 440), some (.int (nI i)), x5, x6, x7] [] S Q := by
  obtain ⟨rec, sp, v0, mp, fk, fp, fs, xs, cs, b, tot, re, gs, B, hC, hM, hp, hO, hr⟩ := h
  obtain ⟨hfs, hfb, hx60, hxe, hcs40, hcs, hb, hB, htot, hRq, hP, hE, hcq, hgl, hgB, hev60⟩ := id hp
  obtain ⟨g0, hg0⟩ := hO
  have h0 := hC.2.1
  obtain ⟨l9, A9, E9, hcl⟩ := clI_R (T := S) hC
  obtain ⟨I, st, li, M, E, C, K, F, ch, mb, g, P, hm, hx⟩ := id hM
  refine wp_step rfl rfl ?_
  refine wp_c0 rfl rfl (by decide) rfl (recv_ok h0 rfl) rfl (q_chunks hcl ?_)
  refine wp_step rfl rfl ?_
  refine wp_c0 rfl rfl (by decide) rfl (recv_ok hm.1 rfl) rfl (q_mchunks hm.1 hm.2.1 hm.2.2.1 hm.2.2.2.2.2.2.2.2.2.2.2.2.2.1 hm.2.2.2.2.2.2.2.2.2.2.2.2.2.2.1 (fun T J hf hg9 a j0 => ?_))
  refine wp_icmp_t rfl (decide_eq_true rfl) ?_
  exact hn _ _ _ _ ⟨rec, sp, v0, mp, fk, fp, fs, xs, cs, b, tot, re, gs, B, clI_fr hC hf (fun j hj => by simp only [List.mem_cons, List.not_mem_nil, or_false] at hj; omega), ⟨J, st, li, M, E, C, K, F, ch, mb, g, P, mRc_1 hm hf a hg9 (by decide) (by decide) (by decide), moX_up hx hf (fun j hj => by simp only [List.mem_cons, List.not_mem_nil, or_false] at hj; omega) a hg9 (by decide)⟩, hp, ⟨g0, by rw [fr_get hf (by decide)]; exact hg0⟩, roI_up (roI_fr hr hf) (by omega)⟩
set_option maxRecDepth 8192 in
set_option maxHeartbeats 2000000 in
theorem lc_misfit (hi : i + 4 ≤ X.1) (hL : X.1 ≤ 2048) (h : lwI S i) (hn : ∀ T y5 y6 y7, lwI T (i + 4) → wp X (d + 30) 176 852 [some (.ref 1000000), some (.ref 0), some (.ref 408), some (.ref 440), some (.int (nI i)), y5, y6, y7] [] T Q) : wp X (d + 30) 176 612 [some (.ref 1000000), some (.ref 0), some (.ref 408), some (.ref 440), some (.int (nI i)), x5, x6, x7] [] S Q := by
  obtain ⟨rec, sp, v0, mp, fk, fp, fs, xs, cs, b, tot, re, gs, B, hC, hM, hp, hO, hr⟩ := h
  obtain ⟨hfs, hfb, hx60, hxe, hcs40, hcs, hb, hB, htot, hRq, hP, hE, hcq, hgl, hgB, hev60⟩ := id hp
  obtain ⟨g0, hg0⟩ := hO
  have h0 := hC.2.1
  obtain ⟨I, st, li, M, E, C, K, F, ch, mb, g, P, hm, hx⟩ := id hM
  refine wp_step rfl rfl ?_
  refine wp_c0 rfl rfl (by decide) rfl (recv_ok h0 rfl) rfl (q_misfit h0 ?_)
  refine wp_step rfl rfl ?_
  refine wp_c0 rfl rfl (by decide) rfl (recv_ok hm.1 rfl) rfl (q_mmisfit hm.1 hx.2.2.2.2.2.1 (fun T J hf hg9 a j0 => ?_))
  refine wp_icmp_t rfl (decide_eq_true rfl) ?_
  exact hn _ _ _ _ ⟨rec, sp, v0, mp, fk, fp, fs, xs, cs, b, tot, re, gs, B, clI_fr hC hf (fun j hj => by simp only [List.mem_cons, List.not_mem_nil, or_false] at hj; omega), ⟨J, st, li, M, E, C, K, F, ch, mb, g, P, mRc_1 hm hf a hg9 (by decide) (by decide) (by decide), moX_up hx hf (fun j hj => by simp only [List.mem_cons, List.not_mem_nil, or_false] at hj; omega) a hg9 (by decide)⟩, hp, ⟨g0, by rw [fr_get hf (by decide)]; exact hg0⟩, roI_up (roI_fr hr hf) (by omega)⟩
set_option maxRecDepth 8192 in
set_option maxHeartbeats 2000000 in
theorem lc_group (hi : i + 4 ≤ X.1) (hL : X.1 ≤ 2048) (h : lwI S i) (hn : ∀ T y5 y6 y7, lwI T (i + 4) → wp X (d + 30) 176 852 [some (.ref 1000000), some (.ref 0), some (.ref 408), some (.ref 440), some (.int (nI i)), y5, y6, y7] [] T Q) : wp X (d + 30) 176 748 [some (.ref 1000000), some (.ref 0), some (.ref 408), some (.ref 440), some (.int (nI i)), x5, x6, x7] [] S Q := by
  obtain ⟨rec, sp, v0, mp, fk, fp, fs, xs, cs, b, tot, re, gs, B, hC, hM, hp, hO, hr⟩ := h
  obtain ⟨hfs, hfb, hx60, hxe, hcs40, hcs, hb, hB, htot, hRq, hP, hE, hcq, hgl, hgB, hev60⟩ := id hp
  obtain ⟨g0, hg0⟩ := hO
  have h0 := hC.2.1
  obtain ⟨l9, A9, E9, hcl⟩ := clI_R (T := S) hC
  obtain ⟨ch9, hch1, hch2⟩ := hC.2.2.2.2.2.2.2.1
  obtain ⟨PG, hgr, hgd⟩ := hC.2.2.2.2.2.2.2.2.2.2.2
  iterate 5 refine wp_step rfl rfl ?_
  rw [show nI i + Int32.ofInt 1 = nI (i + 1) from nI_add i 1]
  refine wp_sld rfl (am_in_nI (by omega) (by omega)) ?_
  rw [nI_clamp (by omega)]
  iterate 4 refine wp_step rfl rfl ?_
  rw [show nI i + Int32.ofInt 2 = nI (i + 2) from nI_add i 2]
  refine wp_sld rfl (am_in_nI (by omega) (by omega)) ?_
  rw [nI_clamp (by omega)]
  refine wp_c0 rfl rfl (by decide) rfl (recv_ok h0 rfl) rfl (q_group hcl hx60 hch2 hxe hch1 ⟨_, PG, hgr⟩ (fun P1 T1 hf1 hg1 hD1 hl1 => ?_))
  have hM1 := moI_fr hM hf1 (fun j hj => by simp only [List.mem_cons, List.not_mem_nil, or_false] at hj; omega)
  have hC1 := clI_group hC hf1 hg1 hD1
  have hr1 := roI_fr hr hf1
  have hgg : am_get T1 440 = some (lA 1 g0) := by rw [fr_get hf1 (by decide)]; exact hg0
  obtain ⟨I, st, li, M, E, C, K, F, ch, mb, g, P, hm, hx⟩ := hM1
  iterate 5 refine wp_step rfl rfl ?_
  rw [show nI i + Int32.ofInt 1 = nI (i + 1) from nI_add i 1]
  refine wp_sld rfl (am_in_nI (by omega) (by omega)) ?_
  rw [nI_clamp (by omega)]
  iterate 4 refine wp_step rfl rfl ?_
  rw [show nI i + Int32.ofInt 2 = nI (i + 2) from nI_add i 2]
  refine wp_sld rfl (am_in_nI (by omega) (by omega)) ?_
  rw [nI_clamp (by omega)]
  refine wp_c0 rfl rfl (by decide) rfl (recv_ok hm.1 rfl) rfl (q_mgroup hb hRq hP hE hm hx.2.2.2.2.2.2.1 hx.2.2.2.2.2.2.2.1 hx.2.2.2.2.2.2.2.2.1 hxe hx60 hx.2.2.2.2.2.2.2.2.2.2.2.2.1 (fun P2 T J st2 li2 K2 hf hg9 hm2 j0 j49 hG2 hD2 hB2 => ?_))
  refine wp_icmp_t rfl (decide_eq_true rfl) ?_
  obtain ⟨x1, x2, x3, x4, x5_, x6_, x7_, x8, x9, x10, x11, x12, x13, x14, x15, x16⟩ := hx
  generalize grp b tot re (X.2 (i + 1)) (X.2 (i + 2)) xs = gs2 at hD1 hl1 j49 hD2 hB2 hC1 ⊢
  have hx2 : moX T J st2 li2 F ch mb g P2 mp fk fp fs xs cs gs2 B := ⟨(hg9 2 (by decide)).trans x1, by rw [fr_get hf (by decide)]; exact x2, x3, (hg9 27 (by decide)).trans x4, (hg9 28 (by decide)).trans x5_, (hg9 39 (by decide)).trans x6_, (hg9 45 (by decide)).trans x7_, by rw [fr_get hf (by decide)]; exact x8, x9, cmW_up x10 hf (fun j hj => by simp only [List.mem_cons, List.not_mem_nil, or_false] at hj; omega) hm2.1 hg9 (by decide), by rw [fr_get hf (by decide)]; exact x11, j49, hG2, hD2, by rw [fr_get hf (by decide)]; exact x15, x16⟩
  have hp2 : puI fs xs cs b tot re gs2 B := ⟨hfs, hfb, hx60, hxe, hcs40, hcs, hb, hB, htot, hRq, hP, hE, hcq, by omega, fun x hx9 => by have := hB2.2 x hx9; omega, hev60⟩
  exact hn _ _ _ _ ⟨rec, sp, v0, mp, fk, fp, fs, xs, cs, b, tot, re, gs2, B, clI_fr hC1 hf (fun j hj => by simp only [List.mem_cons, List.not_mem_nil, or_false] at hj; omega), ⟨J, st2, li2, M, E, C, K2, F, ch, mb, g, P2, hm2, hx2⟩, hp2, ⟨g0, by rw [fr_get hf (by decide)]; exact hgg⟩, roI_up (roI_fr hr1 hf) (by omega)⟩
def c16i (x : Int32) : Nat := x.toBitVec.toNat % 65536
theorem i2c_n (x : Int32) : (x.toUInt32 % 65536).toInt32 = nI (c16i x) := pk_char _
set_option maxRecDepth 8192 in
set_option maxHeartbeats 2000000 in
theorem lc_type (hi : i + 4 ≤ X.1) (hL : X.1 ≤ 2048) (h : lwI S i) (hn : ∀ T y5 y6 y7, lwI T (i + 4) → wp X (d + 30) 176 852 [some (.ref 1000000), some (.ref 0), some (.ref 408), some (.ref 440), some (.int (nI i)), y5, y6, y7] [] T Q) : wp X (d + 30) 176 513 [some (.ref 1000000), some (.ref 0), some (.ref 408), some (.ref 440), some (.int (nI i)), x5, x6, x7] [] S Q := by
  obtain ⟨rec, sp, v0, mp, fk, fp, fs, xs, cs, b, tot, re, gs, B, hC, hM, hp, hO, hr⟩ := h
  obtain ⟨hfs, hfb, hx60, hxe, hcs40, hcs, hb, hB, htot, hRq, hP, hE, hcq, hgl, hgB, hev60⟩ := id hp
  obtain ⟨g0, hg0⟩ := hO
  have h0 := hC.2.1
  obtain ⟨s9, P9, hfl, hdg⟩ := hC.2.2.2.2.2.2.2.2.1
  obtain ⟨ty9, hty, htD⟩ := hC.2.2.2.2.2.2.2.2.2.1
  iterate 5 refine wp_step rfl rfl ?_
  rw [show nI i + Int32.ofInt 1 = nI (i + 1) from nI_add i 1]
  refine wp_sld rfl (am_in_nI (by omega) (by omega)) ?_
  rw [nI_clamp (by omega)]
  refine wp_step rfl rfl ?_
  rw [i2c_n]
  have hc16 : c16i (X.2 (i + 1)) < 65536 := Nat.mod_lt _ (by decide)
  refine wp_c0 rfl rfl (by decide) rfl (recv_ok h0 rfl) rfl (q_type h0 hfl hcs40 hty hc16 (fun e => ?_) (fun e T1 hf1 hfl1 hty1 => ?_))
  · have hM1 := hM
    have hC1 := hC
    have hr1 := hr
    have hg1 := hg0
    obtain ⟨I, st, li, M, E, C, K, F, ch, mb, g, P, hm, hx⟩ := hM1
    obtain ⟨x1, x2, x3, x4, x5_, x6_, x7_, x8, x9, x10, x11, x12, x13, x14, x15, x16⟩ := id hx
    obtain ⟨_, w2, w3, ⟨tm, w4, w5⟩, w6, Pw, w7, w8, w9⟩ := id x10
    iterate 5 refine wp_step rfl rfl ?_
    rw [show nI i + Int32.ofInt 1 = nI (i + 1) from nI_add i 1]
    refine wp_sld rfl (am_in_nI (by omega) (by omega)) ?_
    rw [nI_clamp (by omega)]
    refine wp_step rfl rfl ?_
    rw [i2c_n]
    refine wp_c0 rfl rfl (by decide) rfl (recv_ok hm.1 rfl) rfl (q_mtype hm.1 w2 hcs40 w4 w5 hc16 (fun e2 T J hf hg9 a j0 => ?_) (fun e2 tm2 T J hf hg9 a j0 j38 a4 hD4 => ?_))
    · refine wp_icmp_t rfl rfl ?_
      exact hn _ _ _ _ ⟨rec, sp, v0, mp, fk, fp, fs, xs, cs, b, tot, re, gs, B, clI_fr hC1 hf (fun j hj => by simp only [List.mem_cons, List.not_mem_nil, or_false] at hj; omega), ⟨J, st, li, M, E, C, K, F, ch, mb, g, P, mRc_1 hm hf a hg9 (by decide) (by decide) (by decide), moX_up hx hf (fun j hj => by simp only [List.mem_cons, List.not_mem_nil, or_false] at hj; omega) a hg9 (by decide)⟩, hp, ⟨g0, by rw [fr_get hf (by decide)]; exact hg1⟩, roI_up (roI_fr hr1 hf) (by omega)⟩
    · exact absurd e e2
  · have hM1 := moI_fr hM hf1 (fun j hj => by simp only [List.mem_cons, List.not_mem_nil, or_false] at hj; omega)
    have hlen : (cs ++ [c16i (X.2 (i + 1))]).length = cs.length + 1 := by simp
    have hC1 : clI T1 rec sp mp fk fp fs xs (cs ++ [c16i (X.2 (i + 1))]) b tot re gs := clI_type hC hf1 (by rw [hlen]; exact hfl1) hdg hty1 (fun j c hc => by
      by_cases k : j < cs.length
      · rw [List.getElem?_append_left k] at hc
        rw [pk_un (by omega)]
        exact htD j c hc
      · have hj2 := (List.getElem?_eq_some_iff.mp hc).1
        rw [hlen] at hj2
        obtain rfl : j = cs.length := by omega
        rw [List.getElem?_append_right (Nat.le_refl _), Nat.sub_self] at hc
        cases hc
        exact ⟨pk_us, hc16⟩)
    have hr1 := roI_fr hr hf1
    have hg1 : am_get T1 440 = some (lA 1 g0) := by rw [fr_get hf1 (by decide)]; exact hg0
    obtain ⟨I, st, li, M, E, C, K, F, ch, mb, g, P, hm, hx⟩ := hM1
    obtain ⟨x1, x2, x3, x4, x5_, x6_, x7_, x8, x9, x10, x11, x12, x13, x14, x15, x16⟩ := id hx
    obtain ⟨_, w2, w3, ⟨tm, w4, w5⟩, w6, Pw, w7, w8, w9⟩ := id x10
    iterate 5 refine wp_step rfl rfl ?_
    rw [show nI i + Int32.ofInt 1 = nI (i + 1) from nI_add i 1]
    refine wp_sld rfl (am_in_nI (by omega) (by omega)) ?_
    rw [nI_clamp (by omega)]
    refine wp_step rfl rfl ?_
    rw [i2c_n]
    refine wp_c0 rfl rfl (by decide) rfl (recv_ok hm.1 rfl) rfl (q_mtype hm.1 w2 hcs40 w4 w5 hc16 (fun e2 T J hf hg9 a j0 => ?_) (fun e2 tm2 T J hf hg9 a j0 j38 a4 hD4 => ?_))
    · exact absurd e2 e
    · refine wp_icmp_t rfl rfl ?_
      have hm2 : mRc T J st li b v0 tot re M E C K := mRc_up hm hf (fun j hj => by simp only [List.mem_cons, List.not_mem_nil, or_false] at hj; omega) a hg9 (by decide) (by decide) (by decide) (mSk_fr hm.2.2.2.2.2.2.2.2.2.2.2.2.2.2.2.2 hf (fun j hj => by simp only [List.mem_cons, List.not_mem_nil, or_false] at hj; omega))
      have hcs2 : ∀ c, c ∈ cs ++ [c16i (X.2 (i + 1))] → 32 ≤ c ∧ c ≤ 126 := fun c hc => by
        rcases List.mem_append.mp hc with q | q
        · exact hcs c q
        · rw [List.mem_singleton] at q
          subst q
          omega
      have hx2 : moX T J st li F ch mb g P mp fk fp fs xs (cs ++ [c16i (X.2 (i + 1))]) gs B := ⟨(hg9 2 (by decide)).trans x1, by rw [fr_get hf (by decide)]; exact x2, x3, (hg9 27 (by decide)).trans x4, (hg9 28 (by decide)).trans x5_, (hg9 39 (by decide)).trans x6_, (hg9 45 (by decide)).trans x7_, by rw [fr_get hf (by decide)]; exact x8, x9, ⟨a, j38, by rw [hlen]; omega, ⟨tm2, a4, hD4⟩, hcs2, Pw, by rw [fr_get hf (by decide)]; exact w7, by rw [fr_get hf (by decide)]; exact w8, by rw [fr_get hf (by decide)]; exact w9⟩, by rw [fr_get hf (by decide)]; exact x11, (hg9 49 (by decide)).trans x12, mGr_fr x13 hf (fun j hj => by simp only [List.mem_cons, List.not_mem_nil, or_false] at hj; omega), x14, by rw [fr_get hf (by decide)]; exact x15, x16⟩
      have hp2 : puI fs xs (cs ++ [c16i (X.2 (i + 1))]) b tot re gs B := ⟨hfs, hfb, hx60, hxe, by rw [hlen]; omega, hcs2, hb, hB, htot, hRq, hP, hE, hcq, hgl, hgB, hev60⟩
      exact hn _ _ _ _ ⟨rec, sp, v0, mp, fk, fp, fs, xs, cs ++ [c16i (X.2 (i + 1))], b, tot, re, gs, B, clI_fr hC1 hf (fun j hj => by simp only [List.mem_cons, List.not_mem_nil, or_false] at hj; omega), ⟨J, st, li, M, E, C, K, F, ch, mb, g, P, hm2, hx2⟩, hp2, ⟨g0, by rw [fr_get hf (by decide)]; exact hg1⟩, roI_up (roI_fr hr1 hf) (by omega)⟩
end LAWS
