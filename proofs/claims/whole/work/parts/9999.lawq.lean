/-! THE LAW: a call that asks -/
theorem RtL_v {Q : am_R → Prop} {g : Nat → Int64} {es : List (String × Int32)} {x : Int64} {T : am_S} (h : am_get T 440 = some (lA 1 g)) (hq : ∀ T', fr [440] T T' → am_get T' 440 = some (lA 1 (vp_updL g 0 x)) → Q (.inl (some (.int 0)), T')) : RtL Q g es (.inl (some (.long x)), T) := ⟨h, hq⟩
theorem RtL_e {Q : am_R → Prop} {g : Nat → Int64} {es : List (String × Int32)} {E : String} {c : Int32} {T : am_S} (hc : (E, c) ∈ es) (hq : Q (.inl (some (.int c)), T)) : RtL Q g es (.inr E, T) := ⟨c, hc, hq⟩
theorem RtI_v {Q : am_R → Prop} {g : Nat → Int64} {es : List (String × Int32)} {x : Int32} {T : am_S} (h : am_get T 440 = some (lA 1 g)) (hq : ∀ T', fr [440] T T' → am_get T' 440 = some (lA 1 (vp_updL g 0 x.toInt64)) → Q (.inl (some (.int 0)), T')) : RtI Q g es (.inl (some (.int x)), T) := ⟨h, hq⟩
theorem RtI_e {Q : am_R → Prop} {g : Nat → Int64} {es : List (String × Int32)} {E : String} {c : Int32} {T : am_S} (hc : (E, c) ∈ es) (hq : Q (.inl (some (.int c)), T)) : RtI Q g es (.inr E, T) := ⟨c, hc, hq⟩
theorem lg_self (x : Int64) : am_c1 .eq (lg_cmp x x) = true := decide_eq_true ((lg_cmp_eq x x).mpr rfl)
theorem moX_fold {ks : List Nat} {S T : am_S} {I J : Nat → Int32} {st li st' li' : Int64} {F ch mb : Nat → Int32} {g g' : Nat → Int64} {P : jGA} {mp fk fp : Int32} {fs xs cs : List Nat} {gs : List jG} {B : Nat → Nat} (h : moX S I st li F ch mb g P mp fk fp fs xs cs gs B) (hf : fr [408, 425, 426, 427, 433] S T) (hT : am_get T 408 = some (moC J st' li')) (hg : gf ks I J) (hk : 2 ∉ ks ∧ 27 ∉ ks ∧ 28 ∉ ks ∧ 38 ∉ ks ∧ 39 ∉ ks ∧ 45 ∉ ks ∧ 49 ∉ ks) (hg' : am_get T 433 = some (lA 60 g')) : moX T J st' li' F ch mb g' P mp fk fp fs xs cs gs B := by
  obtain ⟨h1, h2, h3, h4, h5, h6, h7, h8, h9, h10, h11, h12, h13, h14, h15, h16⟩ := h
  obtain ⟨k2, k27, k28, k38, k39, k45, k49⟩ := hk
  exact ⟨(hg 2 k2).trans h1, by rw [fr_get hf (by decide)]; exact h2, h3, (hg 27 k27).trans h4, (hg 28 k28).trans h5, (hg 39 k39).trans h6, (hg 45 k45).trans h7, by rw [fr_get hf (by decide)]; exact h8, h9, cmW_up h10 hf (fun j hj => by simp only [List.mem_cons, List.not_mem_nil, or_false] at hj; omega) hT hg k38, hg', (hg 49 k49).trans h12, mGr_fr h13 hf (fun j hj => by simp only [List.mem_cons, List.not_mem_nil, or_false] at hj; omega), h14, by rw [fr_get hf (by decide)]; exact h15, h16⟩
section LAWQ
variable {X : Nat × (Nat → Int32)} {d i : Nat} {Q : am_R → Prop} {S : am_S} {x5 x6 x7 : Option Value}
set_option maxRecDepth 8192 in
set_option maxHeartbeats 2000000 in
theorem lc_event (hi : i + 4 ≤ X.1) (hL : X.1 ≤ 2048) (h : lwI S i) (hn : ∀ T y5 y6 y7, lwI T (i + 4) → wp X (d + 30) 176 852 [some (.ref 1000000), some (.ref 0), some (.ref 408), some (.ref 440), some (.int (nI i)), y5, y6, y7] [] T Q) : wp X (d + 30) 176 231 [some (.ref 1000000), some (.ref 0), some (.ref 408), some (.ref 440), some (.int (nI i)), x5, x6, x7] [] S Q := by
  obtain ⟨rec, sp, v0, mp, fk, fp, fs, xs, cs, b, tot, re, gs, B, hC, hM, hp, hO, hr⟩ := h
  obtain ⟨hfs, hfb, hx60, hxe, hcs40, hcs, hb, hB, htot, hRq, hP, hE, hcq, hgl, hgB, hev60⟩ := id hp
  obtain ⟨g0, hg0⟩ := hO
  have h0 := hC.2.1
  obtain ⟨l9, A9, E9, hcl⟩ := clI_R (T := S) hC
  iterate 5 refine wp_step rfl rfl ?_
  rw [show nI i + Int32.ofInt 1 = nI (i + 1) from nI_add i 1]
  refine wp_sld rfl (am_in_nI (by omega) (by omega)) ?_
  rw [nI_clamp (by omega)]
  iterate 4 refine wp_step rfl rfl ?_
  rw [show nI i + Int32.ofInt 2 = nI (i + 2) from nI_add i 2]
  refine wp_sld rfl (am_in_nI (by omega) (by omega)) ?_
  rw [nI_clamp (by omega)]
  refine wp_step rfl rfl ?_
  refine wp_c0 rfl rfl (by decide) rfl rfl rfl (h_168 h0 (c_event hb hcl (fun v e => RtL_v hg0 (fun T2 hf4 h4 => ?_)) (fun e => RtL_e (c := 1) (by simp) ?_) (fun e => RtL_e (c := 2) (by simp) ?_)))
  · have hC3 := hC
    have hM3 := hM
    have hr3 := hr
    have hC1 := clI_fr hC3 hf4 (fun j hj => by simp only [List.mem_cons, List.not_mem_nil, or_false] at hj; omega)
    have hM1 := moI_fr hM3 hf4 (fun j hj => by simp only [List.mem_cons, List.not_mem_nil, or_false] at hj; omega)
    have hr1 := roI_up (roI_fr hr3 hf4) (show i ≤ i + 1 by omega)
    have eO := e
    have hO1 := h4
    generalize hgg : vp_updL g0 0 v = gg at hO1
    have hgv : gg 0 = v := by rw [← hgg]; exact pk_uLs
    obtain ⟨I, st, li, M, E, C, K, F, ch, mb, g, P, hm, hx⟩ := hM1
    iterate 6 refine wp_step rfl rfl ?_
    rw [show nI i + Int32.ofInt 1 = nI (i + 1) from nI_add i 1]
    refine wp_sld rfl (am_in_nI (by omega) (by omega)) ?_
    rw [nI_clamp (by omega)]
    iterate 4 refine wp_step rfl rfl ?_
    rw [show nI i + Int32.ofInt 2 = nI (i + 2) from nI_add i 2]
    refine wp_sld rfl (am_in_nI (by omega) (by omega)) ?_
    rw [nI_clamp (by omega)]
    refine wp_c0 rfl rfl (by decide) rfl (recv_ok hm.1 rfl) rfl (m_event hb hm hP hcq (fun v T9 J9 li9 e2 hf9 hg9 hm9 j0 => ?_) (fun v T9 J9 li9 e2 hf9 hg9 hm9 j0 => ?_))
    · rw [eO] at e2; cases e2
      have hf2 := hf9
      have h2 := hm9
      have hC2 := clI_fr hC1 hf9 (fun j hj => by simp only [List.mem_cons, List.not_mem_nil, or_false] at hj; omega)
      have hM2 : moI T9 v0 mp fk fp fs xs cs b tot re gs B := ⟨J9, _, _, M, E, C, _, F, ch, mb, g, P, h2, moX_up hx hf9 (fun j hj => by simp only [List.mem_cons, List.not_mem_nil, or_false] at hj; omega) h2.1 hg9 (by decide)⟩
      have hO2 : am_get T9 440 = some (lA 1 gg) := by rw [fr_get hf9 (by decide)]; exact hO1
      iterate 2 refine wp_step rfl rfl ?_
      refine wp_c0 rfl rfl (by decide) rfl (recv_ok h2.1 rfl) rfl (q_mthrown h2.1 j0 ?_)
      refine wp_step rfl rfl ?_
      refine wp_icmp_t rfl rfl ?_
      refine wp_step rfl rfl ?_
      refine wp_if_f rfl rfl ?_
      iterate 2 refine wp_step rfl rfl ?_
      refine wp_lald rfl (by decide) hO2 (by decide) ?_
      rw [show (Int32.ofInt 0).toNatClampNeg = 0 from rfl, hgv]
      iterate 2 refine wp_step rfl rfl ?_
      refine wp_if_t rfl (lg_self _) ?_
      refine wp_step rfl rfl ?_
      exact hn _ _ _ _ ⟨rec, sp, v0, mp, fk, fp, fs, xs, cs, b, tot, re, gs, B, hC2, hM2, hp, ⟨_, hO2⟩, roI_up (roI_fr hr1 hf2) (by omega)⟩
    · rw [eO] at e2; cases e2
  · have hC3 := hC
    have hM3 := hM
    have hr3 := hr
    have hg3 := hg0
    have hC1 : clI (am_thrown S) rec sp mp fk fp fs xs cs b tot re gs := hC3
    have hM1 : moI (am_thrown S) v0 mp fk fp fs xs cs b tot re gs B := hM3
    have hr1 := roI_thr hr3
    have hO1 : am_get (am_thrown S) 440 = some (lA 1 g0) := hg3
    generalize am_thrown S = S9 at hC1 hM1 hr1 hO1 ⊢
    have eO := e
    obtain ⟨I, st, li, M, E, C, K, F, ch, mb, g, P, hm, hx⟩ := hM1
    iterate 6 refine wp_step rfl rfl ?_
    rw [show nI i + Int32.ofInt 1 = nI (i + 1) from nI_add i 1]
    refine wp_sld rfl (am_in_nI (by omega) (by omega)) ?_
    rw [nI_clamp (by omega)]
    iterate 4 refine wp_step rfl rfl ?_
    rw [show nI i + Int32.ofInt 2 = nI (i + 2) from nI_add i 2]
    refine wp_sld rfl (am_in_nI (by omega) (by omega)) ?_
    rw [nI_clamp (by omega)]
    refine wp_c0 rfl rfl (by decide) rfl (recv_ok hm.1 rfl) rfl (m_event hb hm hP hcq (fun v T9 J9 li9 e2 hf9 hg9 hm9 j0 => ?_) (fun v T9 J9 li9 e2 hf9 hg9 hm9 j0 => ?_))
    · rw [eO] at e2; cases e2
    · rw [eO] at e2; cases e2
      have hf2 := hf9
      have h2 := hm9
      have hC2 := clI_fr hC1 hf9 (fun j hj => by simp only [List.mem_cons, List.not_mem_nil, or_false] at hj; omega)
      have hM2 : moI T9 v0 mp fk fp fs xs cs b tot re gs B := ⟨J9, _, _, M, E, C, _, F, ch, mb, g, P, h2, moX_up hx hf9 (fun j hj => by simp only [List.mem_cons, List.not_mem_nil, or_false] at hj; omega) h2.1 hg9 (by decide)⟩
      have hO2 : am_get T9 440 = some (lA 1 g0) := by rw [fr_get hf9 (by decide)]; exact hO1
      iterate 2 refine wp_step rfl rfl ?_
      refine wp_c0 rfl rfl (by decide) rfl (recv_ok h2.1 rfl) rfl (q_mthrown h2.1 j0 ?_)
      refine wp_step rfl rfl ?_
      refine wp_icmp_t rfl rfl ?_
      refine wp_step rfl rfl ?_
      refine wp_if_t rfl rfl ?_
      refine wp_step rfl rfl ?_
      exact hn _ _ _ _ ⟨rec, sp, v0, mp, fk, fp, fs, xs, cs, b, tot, re, gs, B, hC2, hM2, hp, ⟨_, hO2⟩, roI_up (roI_fr hr1 hf2) (by omega)⟩
  · have hC3 := hC
    have hM3 := hM
    have hr3 := hr
    have hg3 := hg0
    have hC1 : clI (am_thrown S) rec sp mp fk fp fs xs cs b tot re gs := hC3
    have hM1 : moI (am_thrown S) v0 mp fk fp fs xs cs b tot re gs B := hM3
    have hr1 := roI_thr hr3
    have hO1 : am_get (am_thrown S) 440 = some (lA 1 g0) := hg3
    generalize am_thrown S = S9 at hC1 hM1 hr1 hO1 ⊢
    have eO := e
    obtain ⟨I, st, li, M, E, C, K, F, ch, mb, g, P, hm, hx⟩ := hM1
    iterate 6 refine wp_step rfl rfl ?_
    rw [show nI i + Int32.ofInt 1 = nI (i + 1) from nI_add i 1]
    refine wp_sld rfl (am_in_nI (by omega) (by omega)) ?_
    rw [nI_clamp (by omega)]
    iterate 4 refine wp_step rfl rfl ?_
    rw [show nI i + Int32.ofInt 2 = nI (i + 2) from nI_add i 2]
    refine wp_sld rfl (am_in_nI (by omega) (by omega)) ?_
    rw [nI_clamp (by omega)]
    refine wp_c0 rfl rfl (by decide) rfl (recv_ok hm.1 rfl) rfl (m_event hb hm hP hcq (fun v T9 J9 li9 e2 hf9 hg9 hm9 j0 => ?_) (fun v T9 J9 li9 e2 hf9 hg9 hm9 j0 => ?_))
    · rw [eO] at e2; cases e2
    · rw [eO] at e2; cases e2
      have hf2 := hf9
      have h2 := hm9
      have hC2 := clI_fr hC1 hf9 (fun j hj => by simp only [List.mem_cons, List.not_mem_nil, or_false] at hj; omega)
      have hM2 : moI T9 v0 mp fk fp fs xs cs b tot re gs B := ⟨J9, _, _, M, E, C, _, F, ch, mb, g, P, h2, moX_up hx hf9 (fun j hj => by simp only [List.mem_cons, List.not_mem_nil, or_false] at hj; omega) h2.1 hg9 (by decide)⟩
      have hO2 : am_get T9 440 = some (lA 1 g0) := by rw [fr_get hf9 (by decide)]; exact hO1
      iterate 2 refine wp_step rfl rfl ?_
      refine wp_c0 rfl rfl (by decide) rfl (recv_ok h2.1 rfl) rfl (q_mthrown h2.1 j0 ?_)
      refine wp_step rfl rfl ?_
      refine wp_icmp_t rfl rfl ?_
      refine wp_step rfl rfl ?_
      refine wp_if_t rfl rfl ?_
      refine wp_step rfl rfl ?_
      exact hn _ _ _ _ ⟨rec, sp, v0, mp, fk, fp, fs, xs, cs, b, tot, re, gs, B, hC2, hM2, hp, ⟨_, hO2⟩, roI_up (roI_fr hr1 hf2) (by omega)⟩
set_option maxRecDepth 8192 in
set_option maxHeartbeats 2000000 in
theorem lc_kind (hi : i + 4 ≤ X.1) (hL : X.1 ≤ 2048) (h : lwI S i) (hn : ∀ T y5 y6 y7, lwI T (i + 4) → wp X (d + 30) 176 852 [some (.ref 1000000), some (.ref 0), some (.ref 408), some (.ref 440), some (.int (nI i)), y5, y6, y7] [] T Q) : wp X (d + 30) 176 298 [some (.ref 1000000), some (.ref 0), some (.ref 408), some (.ref 440), some (.int (nI i)), x5, x6, x7] [] S Q := by
  obtain ⟨rec, sp, v0, mp, fk, fp, fs, xs, cs, b, tot, re, gs, B, hC, hM, hp, hO, hr⟩ := h
  obtain ⟨hfs, hfb, hx60, hxe, hcs40, hcs, hb, hB, htot, hRq, hP, hE, hcq, hgl, hgB, hev60⟩ := id hp
  obtain ⟨g0, hg0⟩ := hO
  have h0 := hC.2.1
  obtain ⟨l9, A9, E9, hcl⟩ := clI_R (T := S) hC
  iterate 5 refine wp_step rfl rfl ?_
  rw [show nI i + Int32.ofInt 1 = nI (i + 1) from nI_add i 1]
  refine wp_sld rfl (am_in_nI (by omega) (by omega)) ?_
  rw [nI_clamp (by omega)]
  iterate 4 refine wp_step rfl rfl ?_
  rw [show nI i + Int32.ofInt 2 = nI (i + 2) from nI_add i 2]
  refine wp_sld rfl (am_in_nI (by omega) (by omega)) ?_
  rw [nI_clamp (by omega)]
  refine wp_step rfl rfl ?_
  refine wp_c0 rfl rfl (by decide) rfl rfl rfl (h_169 h0 (c_kind hcl (fun v e => RtI_v hg0 (fun T2 hf4 h4 => ?_)) (fun e => RtI_e (c := 1) (by simp) ?_)))
  · have hC3 := hC
    have hM3 := hM
    have hr3 := hr
    have hC1 := clI_fr hC3 hf4 (fun j hj => by simp only [List.mem_cons, List.not_mem_nil, or_false] at hj; omega)
    have hM1 := moI_fr hM3 hf4 (fun j hj => by simp only [List.mem_cons, List.not_mem_nil, or_false] at hj; omega)
    have hr1 := roI_up (roI_fr hr3 hf4) (show i ≤ i + 1 by omega)
    have eO := e
    have hO1 := h4
    generalize hgg : vp_updL g0 0 v.toInt64 = gg at hO1
    have hgv : gg 0 = v.toInt64 := by rw [← hgg]; exact pk_uLs
    obtain ⟨I, st, li, M, E, C, K, F, ch, mb, g, P, hm, hx⟩ := hM1
    iterate 6 refine wp_step rfl rfl ?_
    rw [show nI i + Int32.ofInt 1 = nI (i + 1) from nI_add i 1]
    refine wp_sld rfl (am_in_nI (by omega) (by omega)) ?_
    rw [nI_clamp (by omega)]
    iterate 4 refine wp_step rfl rfl ?_
    rw [show nI i + Int32.ofInt 2 = nI (i + 2) from nI_add i 2]
    refine wp_sld rfl (am_in_nI (by omega) (by omega)) ?_
    rw [nI_clamp (by omega)]
    refine wp_c0 rfl rfl (by decide) rfl (recv_ok hm.1 rfl) rfl (m_kind hb hRq hP hE hm (fun v T9 J9 st9 li9 K9 e2 hf9 hg9 j0 hm9 => ?_) (fun v T9 J9 st9 li9 K9 e2 hf9 hg9 j0 hm9 => ?_))
    · rw [eO] at e2; cases e2
      have hf2 := hf9
      have h2 := hm9
      have hC2 := clI_fr hC1 hf9 (fun j hj => by simp only [List.mem_cons, List.not_mem_nil, or_false] at hj; omega)
      have hM2 : moI T9 v0 mp fk fp fs xs cs b tot re gs B := ⟨J9, _, _, M, E, C, _, F, ch, mb, g, P, h2, moX_up hx hf9 (fun j hj => by simp only [List.mem_cons, List.not_mem_nil, or_false] at hj; omega) h2.1 hg9 (by decide)⟩
      have hO2 : am_get T9 440 = some (lA 1 gg) := by rw [fr_get hf9 (by decide)]; exact hO1
      iterate 2 refine wp_step rfl rfl ?_
      refine wp_c0 rfl rfl (by decide) rfl (recv_ok h2.1 rfl) rfl (q_mthrown h2.1 j0 ?_)
      refine wp_step rfl rfl ?_
      refine wp_icmp_t rfl rfl ?_
      refine wp_step rfl rfl ?_
      refine wp_if_f rfl rfl ?_
      iterate 2 refine wp_step rfl rfl ?_
      refine wp_lald rfl (by decide) hO2 (by decide) ?_
      rw [show (Int32.ofInt 0).toNatClampNeg = 0 from rfl, hgv]
      iterate 3 refine wp_step rfl rfl ?_
      refine wp_if_t rfl (lg_self _) ?_
      refine wp_step rfl rfl ?_
      exact hn _ _ _ _ ⟨rec, sp, v0, mp, fk, fp, fs, xs, cs, b, tot, re, gs, B, hC2, hM2, hp, ⟨_, hO2⟩, roI_up (roI_fr hr1 hf2) (by omega)⟩
    · rw [eO] at e2; cases e2
  · have hC3 := hC
    have hM3 := hM
    have hr3 := hr
    have hg3 := hg0
    have hC1 : clI (am_thrown S) rec sp mp fk fp fs xs cs b tot re gs := hC3
    have hM1 : moI (am_thrown S) v0 mp fk fp fs xs cs b tot re gs B := hM3
    have hr1 := roI_thr hr3
    have hO1 : am_get (am_thrown S) 440 = some (lA 1 g0) := hg3
    generalize am_thrown S = S9 at hC1 hM1 hr1 hO1 ⊢
    have eO := e
    obtain ⟨I, st, li, M, E, C, K, F, ch, mb, g, P, hm, hx⟩ := hM1
    iterate 6 refine wp_step rfl rfl ?_
    rw [show nI i + Int32.ofInt 1 = nI (i + 1) from nI_add i 1]
    refine wp_sld rfl (am_in_nI (by omega) (by omega)) ?_
    rw [nI_clamp (by omega)]
    iterate 4 refine wp_step rfl rfl ?_
    rw [show nI i + Int32.ofInt 2 = nI (i + 2) from nI_add i 2]
    refine wp_sld rfl (am_in_nI (by omega) (by omega)) ?_
    rw [nI_clamp (by omega)]
    refine wp_c0 rfl rfl (by decide) rfl (recv_ok hm.1 rfl) rfl (m_kind hb hRq hP hE hm (fun v T9 J9 st9 li9 K9 e2 hf9 hg9 j0 hm9 => ?_) (fun v T9 J9 st9 li9 K9 e2 hf9 hg9 j0 hm9 => ?_))
    · rw [eO] at e2; cases e2
    · rw [eO] at e2; cases e2
      have hf2 := hf9
      have h2 := hm9
      have hC2 := clI_fr hC1 hf9 (fun j hj => by simp only [List.mem_cons, List.not_mem_nil, or_false] at hj; omega)
      have hM2 : moI T9 v0 mp fk fp fs xs cs b tot re gs B := ⟨J9, _, _, M, E, C, _, F, ch, mb, g, P, h2, moX_up hx hf9 (fun j hj => by simp only [List.mem_cons, List.not_mem_nil, or_false] at hj; omega) h2.1 hg9 (by decide)⟩
      have hO2 : am_get T9 440 = some (lA 1 g0) := by rw [fr_get hf9 (by decide)]; exact hO1
      iterate 2 refine wp_step rfl rfl ?_
      refine wp_c0 rfl rfl (by decide) rfl (recv_ok h2.1 rfl) rfl (q_mthrown h2.1 j0 ?_)
      refine wp_step rfl rfl ?_
      refine wp_icmp_t rfl rfl ?_
      refine wp_step rfl rfl ?_
      refine wp_if_t rfl rfl ?_
      refine wp_step rfl rfl ?_
      exact hn _ _ _ _ ⟨rec, sp, v0, mp, fk, fp, fs, xs, cs, b, tot, re, gs, B, hC2, hM2, hp, ⟨_, hO2⟩, roI_up (roI_fr hr1 hf2) (by omega)⟩
set_option maxRecDepth 8192 in
set_option maxHeartbeats 2000000 in
theorem lc_value (hi : i + 4 ≤ X.1) (hL : X.1 ≤ 2048) (h : lwI S i) (hn : ∀ T y5 y6 y7, lwI T (i + 4) → wp X (d + 30) 176 852 [some (.ref 1000000), some (.ref 0), some (.ref 408), some (.ref 440), some (.int (nI i)), y5, y6, y7] [] T Q) : wp X (d + 30) 176 366 [some (.ref 1000000), some (.ref 0), some (.ref 408), some (.ref 440), some (.int (nI i)), x5, x6, x7] [] S Q := by
  obtain ⟨rec, sp, v0, mp, fk, fp, fs, xs, cs, b, tot, re, gs, B, hC, hM, hp, hO, hr⟩ := h
  obtain ⟨hfs, hfb, hx60, hxe, hcs40, hcs, hb, hB, htot, hRq, hP, hE, hcq, hgl, hgB, hev60⟩ := id hp
  obtain ⟨g0, hg0⟩ := hO
  have h0 := hC.2.1
  obtain ⟨l9, A9, E9, hcl⟩ := clI_R (T := S) hC
  iterate 5 refine wp_step rfl rfl ?_
  rw [show nI i + Int32.ofInt 1 = nI (i + 1) from nI_add i 1]
  refine wp_sld rfl (am_in_nI (by omega) (by omega)) ?_
  rw [nI_clamp (by omega)]
  iterate 4 refine wp_step rfl rfl ?_
  rw [show nI i + Int32.ofInt 2 = nI (i + 2) from nI_add i 2]
  refine wp_sld rfl (am_in_nI (by omega) (by omega)) ?_
  rw [nI_clamp (by omega)]
  refine wp_step rfl rfl ?_
  refine wp_c0 rfl rfl (by decide) rfl rfl rfl (h_170 h0 (c_value hcl (fun v e => RtL_v hg0 (fun T2 hf4 h4 => ?_)) (fun e => RtL_e (c := 1) (by simp) ?_) (fun e => RtL_e (c := 2) (by simp) ?_)))
  · have hC3 := hC
    have hM3 := hM
    have hr3 := hr
    have hC1 := clI_fr hC3 hf4 (fun j hj => by simp only [List.mem_cons, List.not_mem_nil, or_false] at hj; omega)
    have hM1 := moI_fr hM3 hf4 (fun j hj => by simp only [List.mem_cons, List.not_mem_nil, or_false] at hj; omega)
    have hr1 := roI_up (roI_fr hr3 hf4) (show i ≤ i + 1 by omega)
    have eO := e
    have hO1 := h4
    generalize hgg : vp_updL g0 0 v = gg at hO1
    have hgv : gg 0 = v := by rw [← hgg]; exact pk_uLs
    obtain ⟨I, st, li, M, E, C, K, F, ch, mb, g, P, hm, hx⟩ := hM1
    iterate 6 refine wp_step rfl rfl ?_
    rw [show nI i + Int32.ofInt 1 = nI (i + 1) from nI_add i 1]
    refine wp_sld rfl (am_in_nI (by omega) (by omega)) ?_
    rw [nI_clamp (by omega)]
    iterate 4 refine wp_step rfl rfl ?_
    rw [show nI i + Int32.ofInt 2 = nI (i + 2) from nI_add i 2]
    refine wp_sld rfl (am_in_nI (by omega) (by omega)) ?_
    rw [nI_clamp (by omega)]
    refine wp_c0 rfl rfl (by decide) rfl (recv_ok hm.1 rfl) rfl (m_value hb hRq hP hE hm (fun v T9 J9 st9 li9 K9 e2 hf9 hg9 j0 hm9 => ?_) (fun v T9 J9 st9 li9 K9 e2 hf9 hg9 j0 hm9 => ?_))
    · rw [eO] at e2; cases e2
      have hf2 := hf9
      have h2 := hm9
      have hC2 := clI_fr hC1 hf9 (fun j hj => by simp only [List.mem_cons, List.not_mem_nil, or_false] at hj; omega)
      have hM2 : moI T9 v0 mp fk fp fs xs cs b tot re gs B := ⟨J9, _, _, M, E, C, _, F, ch, mb, g, P, h2, moX_up hx hf9 (fun j hj => by simp only [List.mem_cons, List.not_mem_nil, or_false] at hj; omega) h2.1 hg9 (by decide)⟩
      have hO2 : am_get T9 440 = some (lA 1 gg) := by rw [fr_get hf9 (by decide)]; exact hO1
      iterate 2 refine wp_step rfl rfl ?_
      refine wp_c0 rfl rfl (by decide) rfl (recv_ok h2.1 rfl) rfl (q_mthrown h2.1 j0 ?_)
      refine wp_step rfl rfl ?_
      refine wp_icmp_t rfl rfl ?_
      refine wp_step rfl rfl ?_
      refine wp_if_f rfl rfl ?_
      iterate 2 refine wp_step rfl rfl ?_
      refine wp_lald rfl (by decide) hO2 (by decide) ?_
      rw [show (Int32.ofInt 0).toNatClampNeg = 0 from rfl, hgv]
      iterate 2 refine wp_step rfl rfl ?_
      refine wp_if_t rfl (lg_self _) ?_
      refine wp_step rfl rfl ?_
      exact hn _ _ _ _ ⟨rec, sp, v0, mp, fk, fp, fs, xs, cs, b, tot, re, gs, B, hC2, hM2, hp, ⟨_, hO2⟩, roI_up (roI_fr hr1 hf2) (by omega)⟩
    · rw [eO] at e2; cases e2
  · have hC3 := hC
    have hM3 := hM
    have hr3 := hr
    have hg3 := hg0
    have hC1 : clI (am_thrown S) rec sp mp fk fp fs xs cs b tot re gs := hC3
    have hM1 : moI (am_thrown S) v0 mp fk fp fs xs cs b tot re gs B := hM3
    have hr1 := roI_thr hr3
    have hO1 : am_get (am_thrown S) 440 = some (lA 1 g0) := hg3
    generalize am_thrown S = S9 at hC1 hM1 hr1 hO1 ⊢
    have eO := e
    obtain ⟨I, st, li, M, E, C, K, F, ch, mb, g, P, hm, hx⟩ := hM1
    iterate 6 refine wp_step rfl rfl ?_
    rw [show nI i + Int32.ofInt 1 = nI (i + 1) from nI_add i 1]
    refine wp_sld rfl (am_in_nI (by omega) (by omega)) ?_
    rw [nI_clamp (by omega)]
    iterate 4 refine wp_step rfl rfl ?_
    rw [show nI i + Int32.ofInt 2 = nI (i + 2) from nI_add i 2]
    refine wp_sld rfl (am_in_nI (by omega) (by omega)) ?_
    rw [nI_clamp (by omega)]
    refine wp_c0 rfl rfl (by decide) rfl (recv_ok hm.1 rfl) rfl (m_value hb hRq hP hE hm (fun v T9 J9 st9 li9 K9 e2 hf9 hg9 j0 hm9 => ?_) (fun v T9 J9 st9 li9 K9 e2 hf9 hg9 j0 hm9 => ?_))
    · rw [eO] at e2; cases e2
    · rw [eO] at e2; cases e2
      have hf2 := hf9
      have h2 := hm9
      have hC2 := clI_fr hC1 hf9 (fun j hj => by simp only [List.mem_cons, List.not_mem_nil, or_false] at hj; omega)
      have hM2 : moI T9 v0 mp fk fp fs xs cs b tot re gs B := ⟨J9, _, _, M, E, C, _, F, ch, mb, g, P, h2, moX_up hx hf9 (fun j hj => by simp only [List.mem_cons, List.not_mem_nil, or_false] at hj; omega) h2.1 hg9 (by decide)⟩
      have hO2 : am_get T9 440 = some (lA 1 g0) := by rw [fr_get hf9 (by decide)]; exact hO1
      iterate 2 refine wp_step rfl rfl ?_
      refine wp_c0 rfl rfl (by decide) rfl (recv_ok h2.1 rfl) rfl (q_mthrown h2.1 j0 ?_)
      refine wp_step rfl rfl ?_
      refine wp_icmp_t rfl rfl ?_
      refine wp_step rfl rfl ?_
      refine wp_if_t rfl rfl ?_
      refine wp_step rfl rfl ?_
      exact hn _ _ _ _ ⟨rec, sp, v0, mp, fk, fp, fs, xs, cs, b, tot, re, gs, B, hC2, hM2, hp, ⟨_, hO2⟩, roI_up (roI_fr hr1 hf2) (by omega)⟩
  · have hC3 := hC
    have hM3 := hM
    have hr3 := hr
    have hg3 := hg0
    have hC1 : clI (am_thrown S) rec sp mp fk fp fs xs cs b tot re gs := hC3
    have hM1 : moI (am_thrown S) v0 mp fk fp fs xs cs b tot re gs B := hM3
    have hr1 := roI_thr hr3
    have hO1 : am_get (am_thrown S) 440 = some (lA 1 g0) := hg3
    generalize am_thrown S = S9 at hC1 hM1 hr1 hO1 ⊢
    have eO := e
    obtain ⟨I, st, li, M, E, C, K, F, ch, mb, g, P, hm, hx⟩ := hM1
    iterate 6 refine wp_step rfl rfl ?_
    rw [show nI i + Int32.ofInt 1 = nI (i + 1) from nI_add i 1]
    refine wp_sld rfl (am_in_nI (by omega) (by omega)) ?_
    rw [nI_clamp (by omega)]
    iterate 4 refine wp_step rfl rfl ?_
    rw [show nI i + Int32.ofInt 2 = nI (i + 2) from nI_add i 2]
    refine wp_sld rfl (am_in_nI (by omega) (by omega)) ?_
    rw [nI_clamp (by omega)]
    refine wp_c0 rfl rfl (by decide) rfl (recv_ok hm.1 rfl) rfl (m_value hb hRq hP hE hm (fun v T9 J9 st9 li9 K9 e2 hf9 hg9 j0 hm9 => ?_) (fun v T9 J9 st9 li9 K9 e2 hf9 hg9 j0 hm9 => ?_))
    · rw [eO] at e2; cases e2
    · rw [eO] at e2; cases e2
      have hf2 := hf9
      have h2 := hm9
      have hC2 := clI_fr hC1 hf9 (fun j hj => by simp only [List.mem_cons, List.not_mem_nil, or_false] at hj; omega)
      have hM2 : moI T9 v0 mp fk fp fs xs cs b tot re gs B := ⟨J9, _, _, M, E, C, _, F, ch, mb, g, P, h2, moX_up hx hf9 (fun j hj => by simp only [List.mem_cons, List.not_mem_nil, or_false] at hj; omega) h2.1 hg9 (by decide)⟩
      have hO2 : am_get T9 440 = some (lA 1 g0) := by rw [fr_get hf9 (by decide)]; exact hO1
      iterate 2 refine wp_step rfl rfl ?_
      refine wp_c0 rfl rfl (by decide) rfl (recv_ok h2.1 rfl) rfl (q_mthrown h2.1 j0 ?_)
      refine wp_step rfl rfl ?_
      refine wp_icmp_t rfl rfl ?_
      refine wp_step rfl rfl ?_
      refine wp_if_t rfl rfl ?_
      refine wp_step rfl rfl ?_
      exact hn _ _ _ _ ⟨rec, sp, v0, mp, fk, fp, fs, xs, cs, b, tot, re, gs, B, hC2, hM2, hp, ⟨_, hO2⟩, roI_up (roI_fr hr1 hf2) (by omega)⟩
set_option maxRecDepth 8192 in
set_option maxHeartbeats 2000000 in
theorem lc_letter (hi : i + 4 ≤ X.1) (hL : X.1 ≤ 2048) (h : lwI S i) (hn : ∀ T y5 y6 y7, lwI T (i + 4) → wp X (d + 30) 176 852 [some (.ref 1000000), some (.ref 0), some (.ref 408), some (.ref 440), some (.int (nI i)), y5, y6, y7] [] T Q) : wp X (d + 30) 176 433 [some (.ref 1000000), some (.ref 0), some (.ref 408), some (.ref 440), some (.int (nI i)), x5, x6, x7] [] S Q := by
  obtain ⟨rec, sp, v0, mp, fk, fp, fs, xs, cs, b, tot, re, gs, B, hC, hM, hp, hO, hr⟩ := h
  obtain ⟨hfs, hfb, hx60, hxe, hcs40, hcs, hb, hB, htot, hRq, hP, hE, hcq, hgl, hgB, hev60⟩ := id hp
  obtain ⟨g0, hg0⟩ := hO
  have h0 := hC.2.1
  obtain ⟨l9, A9, E9, hcl⟩ := clI_R (T := S) hC
  iterate 5 refine wp_step rfl rfl ?_
  rw [show nI i + Int32.ofInt 1 = nI (i + 1) from nI_add i 1]
  refine wp_sld rfl (am_in_nI (by omega) (by omega)) ?_
  rw [nI_clamp (by omega)]
  iterate 4 refine wp_step rfl rfl ?_
  rw [show nI i + Int32.ofInt 2 = nI (i + 2) from nI_add i 2]
  refine wp_sld rfl (am_in_nI (by omega) (by omega)) ?_
  rw [nI_clamp (by omega)]
  iterate 4 refine wp_step rfl rfl ?_
  rw [show nI i + Int32.ofInt 3 = nI (i + 3) from nI_add i 3]
  refine wp_sld rfl (am_in_nI (by omega) (by omega)) ?_
  rw [nI_clamp (by omega)]
  refine wp_step rfl rfl ?_
  refine wp_c0 rfl rfl (by decide) rfl rfl rfl (h_171 h0 (c_letter hcl (fun v e => RtI_v hg0 (fun T2 hf4 h4 => ?_)) (fun e => RtI_e (c := 1) (by simp) ?_) (fun e => RtI_e (c := 2) (by simp) ?_) (fun e => RtI_e (c := 3) (by simp) ?_)))
  · have hC3 := hC
    have hM3 := hM
    have hr3 := hr
    have hC1 := clI_fr hC3 hf4 (fun j hj => by simp only [List.mem_cons, List.not_mem_nil, or_false] at hj; omega)
    have hM1 := moI_fr hM3 hf4 (fun j hj => by simp only [List.mem_cons, List.not_mem_nil, or_false] at hj; omega)
    have hr1 := roI_up (roI_fr hr3 hf4) (show i ≤ i + 1 by omega)
    have eO := e
    have hO1 := h4
    generalize hgg : vp_updL g0 0 v.toInt64 = gg at hO1
    have hgv : gg 0 = v.toInt64 := by rw [← hgg]; exact pk_uLs
    obtain ⟨I, st, li, M, E, C, K, F, ch, mb, g, P, hm, hx⟩ := hM1
    iterate 6 refine wp_step rfl rfl ?_
    rw [show nI i + Int32.ofInt 1 = nI (i + 1) from nI_add i 1]
    refine wp_sld rfl (am_in_nI (by omega) (by omega)) ?_
    rw [nI_clamp (by omega)]
    iterate 4 refine wp_step rfl rfl ?_
    rw [show nI i + Int32.ofInt 2 = nI (i + 2) from nI_add i 2]
    refine wp_sld rfl (am_in_nI (by omega) (by omega)) ?_
    rw [nI_clamp (by omega)]
    iterate 4 refine wp_step rfl rfl ?_
    rw [show nI i + Int32.ofInt 3 = nI (i + 3) from nI_add i 3]
    refine wp_sld rfl (am_in_nI (by omega) (by omega)) ?_
    rw [nI_clamp (by omega)]
    refine wp_c0 rfl rfl (by decide) rfl (recv_ok hm.1 rfl) rfl (m_letter hb hRq hP hE hm (fun v T9 J9 st9 li9 K9 e2 hf9 hg9 j0 hm9 => ?_) (fun v T9 J9 st9 li9 K9 e2 hf9 hg9 j0 hm9 => ?_))
    · rw [eO] at e2; cases e2
      have hf2 := hf9
      have h2 := hm9
      have hC2 := clI_fr hC1 hf9 (fun j hj => by simp only [List.mem_cons, List.not_mem_nil, or_false] at hj; omega)
      have hM2 : moI T9 v0 mp fk fp fs xs cs b tot re gs B := ⟨J9, _, _, M, E, C, _, F, ch, mb, g, P, h2, moX_up hx hf9 (fun j hj => by simp only [List.mem_cons, List.not_mem_nil, or_false] at hj; omega) h2.1 hg9 (by decide)⟩
      have hO2 : am_get T9 440 = some (lA 1 gg) := by rw [fr_get hf9 (by decide)]; exact hO1
      iterate 2 refine wp_step rfl rfl ?_
      refine wp_c0 rfl rfl (by decide) rfl (recv_ok h2.1 rfl) rfl (q_mthrown h2.1 j0 ?_)
      refine wp_step rfl rfl ?_
      refine wp_icmp_t rfl rfl ?_
      refine wp_step rfl rfl ?_
      refine wp_if_f rfl rfl ?_
      iterate 2 refine wp_step rfl rfl ?_
      refine wp_lald rfl (by decide) hO2 (by decide) ?_
      rw [show (Int32.ofInt 0).toNatClampNeg = 0 from rfl, hgv]
      iterate 3 refine wp_step rfl rfl ?_
      refine wp_if_t rfl (lg_self _) ?_
      refine wp_step rfl rfl ?_
      exact hn _ _ _ _ ⟨rec, sp, v0, mp, fk, fp, fs, xs, cs, b, tot, re, gs, B, hC2, hM2, hp, ⟨_, hO2⟩, roI_up (roI_fr hr1 hf2) (by omega)⟩
    · rw [eO] at e2; cases e2
  · have hC3 := hC
    have hM3 := hM
    have hr3 := hr
    have hg3 := hg0
    have hC1 : clI (am_thrown S) rec sp mp fk fp fs xs cs b tot re gs := hC3
    have hM1 : moI (am_thrown S) v0 mp fk fp fs xs cs b tot re gs B := hM3
    have hr1 := roI_thr hr3
    have hO1 : am_get (am_thrown S) 440 = some (lA 1 g0) := hg3
    generalize am_thrown S = S9 at hC1 hM1 hr1 hO1 ⊢
    have eO := e
    obtain ⟨I, st, li, M, E, C, K, F, ch, mb, g, P, hm, hx⟩ := hM1
    iterate 6 refine wp_step rfl rfl ?_
    rw [show nI i + Int32.ofInt 1 = nI (i + 1) from nI_add i 1]
    refine wp_sld rfl (am_in_nI (by omega) (by omega)) ?_
    rw [nI_clamp (by omega)]
    iterate 4 refine wp_step rfl rfl ?_
    rw [show nI i + Int32.ofInt 2 = nI (i + 2) from nI_add i 2]
    refine wp_sld rfl (am_in_nI (by omega) (by omega)) ?_
    rw [nI_clamp (by omega)]
    iterate 4 refine wp_step rfl rfl ?_
    rw [show nI i + Int32.ofInt 3 = nI (i + 3) from nI_add i 3]
    refine wp_sld rfl (am_in_nI (by omega) (by omega)) ?_
    rw [nI_clamp (by omega)]
    refine wp_c0 rfl rfl (by decide) rfl (recv_ok hm.1 rfl) rfl (m_letter hb hRq hP hE hm (fun v T9 J9 st9 li9 K9 e2 hf9 hg9 j0 hm9 => ?_) (fun v T9 J9 st9 li9 K9 e2 hf9 hg9 j0 hm9 => ?_))
    · rw [eO] at e2; cases e2
    · rw [eO] at e2; cases e2
      have hf2 := hf9
      have h2 := hm9
      have hC2 := clI_fr hC1 hf9 (fun j hj => by simp only [List.mem_cons, List.not_mem_nil, or_false] at hj; omega)
      have hM2 : moI T9 v0 mp fk fp fs xs cs b tot re gs B := ⟨J9, _, _, M, E, C, _, F, ch, mb, g, P, h2, moX_up hx hf9 (fun j hj => by simp only [List.mem_cons, List.not_mem_nil, or_false] at hj; omega) h2.1 hg9 (by decide)⟩
      have hO2 : am_get T9 440 = some (lA 1 g0) := by rw [fr_get hf9 (by decide)]; exact hO1
      iterate 2 refine wp_step rfl rfl ?_
      refine wp_c0 rfl rfl (by decide) rfl (recv_ok h2.1 rfl) rfl (q_mthrown h2.1 j0 ?_)
      refine wp_step rfl rfl ?_
      refine wp_icmp_t rfl rfl ?_
      refine wp_step rfl rfl ?_
      refine wp_if_t rfl rfl ?_
      refine wp_step rfl rfl ?_
      exact hn _ _ _ _ ⟨rec, sp, v0, mp, fk, fp, fs, xs, cs, b, tot, re, gs, B, hC2, hM2, hp, ⟨_, hO2⟩, roI_up (roI_fr hr1 hf2) (by omega)⟩
  · have hC3 := hC
    have hM3 := hM
    have hr3 := hr
    have hg3 := hg0
    have hC1 : clI (am_thrown S) rec sp mp fk fp fs xs cs b tot re gs := hC3
    have hM1 : moI (am_thrown S) v0 mp fk fp fs xs cs b tot re gs B := hM3
    have hr1 := roI_thr hr3
    have hO1 : am_get (am_thrown S) 440 = some (lA 1 g0) := hg3
    generalize am_thrown S = S9 at hC1 hM1 hr1 hO1 ⊢
    have eO := e
    obtain ⟨I, st, li, M, E, C, K, F, ch, mb, g, P, hm, hx⟩ := hM1
    iterate 6 refine wp_step rfl rfl ?_
    rw [show nI i + Int32.ofInt 1 = nI (i + 1) from nI_add i 1]
    refine wp_sld rfl (am_in_nI (by omega) (by omega)) ?_
    rw [nI_clamp (by omega)]
    iterate 4 refine wp_step rfl rfl ?_
    rw [show nI i + Int32.ofInt 2 = nI (i + 2) from nI_add i 2]
    refine wp_sld rfl (am_in_nI (by omega) (by omega)) ?_
    rw [nI_clamp (by omega)]
    iterate 4 refine wp_step rfl rfl ?_
    rw [show nI i + Int32.ofInt 3 = nI (i + 3) from nI_add i 3]
    refine wp_sld rfl (am_in_nI (by omega) (by omega)) ?_
    rw [nI_clamp (by omega)]
    refine wp_c0 rfl rfl (by decide) rfl (recv_ok hm.1 rfl) rfl (m_letter hb hRq hP hE hm (fun v T9 J9 st9 li9 K9 e2 hf9 hg9 j0 hm9 => ?_) (fun v T9 J9 st9 li9 K9 e2 hf9 hg9 j0 hm9 => ?_))
    · rw [eO] at e2; cases e2
    · rw [eO] at e2; cases e2
      have hf2 := hf9
      have h2 := hm9
      have hC2 := clI_fr hC1 hf9 (fun j hj => by simp only [List.mem_cons, List.not_mem_nil, or_false] at hj; omega)
      have hM2 : moI T9 v0 mp fk fp fs xs cs b tot re gs B := ⟨J9, _, _, M, E, C, _, F, ch, mb, g, P, h2, moX_up hx hf9 (fun j hj => by simp only [List.mem_cons, List.not_mem_nil, or_false] at hj; omega) h2.1 hg9 (by decide)⟩
      have hO2 : am_get T9 440 = some (lA 1 g0) := by rw [fr_get hf9 (by decide)]; exact hO1
      iterate 2 refine wp_step rfl rfl ?_
      refine wp_c0 rfl rfl (by decide) rfl (recv_ok h2.1 rfl) rfl (q_mthrown h2.1 j0 ?_)
      refine wp_step rfl rfl ?_
      refine wp_icmp_t rfl rfl ?_
      refine wp_step rfl rfl ?_
      refine wp_if_t rfl rfl ?_
      refine wp_step rfl rfl ?_
      exact hn _ _ _ _ ⟨rec, sp, v0, mp, fk, fp, fs, xs, cs, b, tot, re, gs, B, hC2, hM2, hp, ⟨_, hO2⟩, roI_up (roI_fr hr1 hf2) (by omega)⟩
  · have hC3 := hC
    have hM3 := hM
    have hr3 := hr
    have hg3 := hg0
    have hC1 : clI (am_thrown S) rec sp mp fk fp fs xs cs b tot re gs := hC3
    have hM1 : moI (am_thrown S) v0 mp fk fp fs xs cs b tot re gs B := hM3
    have hr1 := roI_thr hr3
    have hO1 : am_get (am_thrown S) 440 = some (lA 1 g0) := hg3
    generalize am_thrown S = S9 at hC1 hM1 hr1 hO1 ⊢
    have eO := e
    obtain ⟨I, st, li, M, E, C, K, F, ch, mb, g, P, hm, hx⟩ := hM1
    iterate 6 refine wp_step rfl rfl ?_
    rw [show nI i + Int32.ofInt 1 = nI (i + 1) from nI_add i 1]
    refine wp_sld rfl (am_in_nI (by omega) (by omega)) ?_
    rw [nI_clamp (by omega)]
    iterate 4 refine wp_step rfl rfl ?_
    rw [show nI i + Int32.ofInt 2 = nI (i + 2) from nI_add i 2]
    refine wp_sld rfl (am_in_nI (by omega) (by omega)) ?_
    rw [nI_clamp (by omega)]
    iterate 4 refine wp_step rfl rfl ?_
    rw [show nI i + Int32.ofInt 3 = nI (i + 3) from nI_add i 3]
    refine wp_sld rfl (am_in_nI (by omega) (by omega)) ?_
    rw [nI_clamp (by omega)]
    refine wp_c0 rfl rfl (by decide) rfl (recv_ok hm.1 rfl) rfl (m_letter hb hRq hP hE hm (fun v T9 J9 st9 li9 K9 e2 hf9 hg9 j0 hm9 => ?_) (fun v T9 J9 st9 li9 K9 e2 hf9 hg9 j0 hm9 => ?_))
    · rw [eO] at e2; cases e2
    · rw [eO] at e2; cases e2
      have hf2 := hf9
      have h2 := hm9
      have hC2 := clI_fr hC1 hf9 (fun j hj => by simp only [List.mem_cons, List.not_mem_nil, or_false] at hj; omega)
      have hM2 : moI T9 v0 mp fk fp fs xs cs b tot re gs B := ⟨J9, _, _, M, E, C, _, F, ch, mb, g, P, h2, moX_up hx hf9 (fun j hj => by simp only [List.mem_cons, List.not_mem_nil, or_false] at hj; omega) h2.1 hg9 (by decide)⟩
      have hO2 : am_get T9 440 = some (lA 1 g0) := by rw [fr_get hf9 (by decide)]; exact hO1
      iterate 2 refine wp_step rfl rfl ?_
      refine wp_c0 rfl rfl (by decide) rfl (recv_ok h2.1 rfl) rfl (q_mthrown h2.1 j0 ?_)
      refine wp_step rfl rfl ?_
      refine wp_icmp_t rfl rfl ?_
      refine wp_step rfl rfl ?_
      refine wp_if_t rfl rfl ?_
      refine wp_step rfl rfl ?_
      exact hn _ _ _ _ ⟨rec, sp, v0, mp, fk, fp, fs, xs, cs, b, tot, re, gs, B, hC2, hM2, hp, ⟨_, hO2⟩, roI_up (roI_fr hr1 hf2) (by omega)⟩
set_option maxRecDepth 8192 in
set_option maxHeartbeats 2000000 in
theorem lc_selected (hi : i + 4 ≤ X.1) (hL : X.1 ≤ 2048) (h : lwI S i) (hn : ∀ T y5 y6 y7, lwI T (i + 4) → wp X (d + 30) 176 852 [some (.ref 1000000), some (.ref 0), some (.ref 408), some (.ref 440), some (.int (nI i)), y5, y6, y7] [] T Q) : wp X (d + 30) 176 625 [some (.ref 1000000), some (.ref 0), some (.ref 408), some (.ref 440), some (.int (nI i)), x5, x6, x7] [] S Q := by
  obtain ⟨rec, sp, v0, mp, fk, fp, fs, xs, cs, b, tot, re, gs, B, hC, hM, hp, hO, hr⟩ := h
  obtain ⟨hfs, hfb, hx60, hxe, hcs40, hcs, hb, hB, htot, hRq, hP, hE, hcq, hgl, hgB, hev60⟩ := id hp
  obtain ⟨g0, hg0⟩ := hO
  have h0 := hC.2.1
  obtain ⟨ch9, hch1, hch2⟩ := hC.2.2.2.2.2.2.2.1
  iterate 5 refine wp_step rfl rfl ?_
  rw [show nI i + Int32.ofInt 1 = nI (i + 1) from nI_add i 1]
  refine wp_sld rfl (am_in_nI (by omega) (by omega)) ?_
  rw [nI_clamp (by omega)]
  refine wp_step rfl rfl ?_
  refine wp_c0 rfl rfl (by decide) rfl rfl rfl (h_173 h0 (c_selected h0 hch1 hch2 hx60 (fun v e => RtI_v hg0 (fun T2 hf4 h4 => ?_)) (fun e => RtI_e (c := 1) (by simp) ?_)))
  · have hC3 := hC
    have hM3 := hM
    have hr3 := hr
    have hC1 := clI_fr hC3 hf4 (fun j hj => by simp only [List.mem_cons, List.not_mem_nil, or_false] at hj; omega)
    have hM1 := moI_fr hM3 hf4 (fun j hj => by simp only [List.mem_cons, List.not_mem_nil, or_false] at hj; omega)
    have hr1 := roI_up (roI_fr hr3 hf4) (show i ≤ i + 1 by omega)
    have eO := e
    have hO1 := h4
    generalize hgg : vp_updL g0 0 v.toInt64 = gg at hO1
    have hgv : gg 0 = v.toInt64 := by rw [← hgg]; exact pk_uLs
    obtain ⟨I, st, li, M, E, C, K, F, ch, mb, g, P, hm, hx⟩ := hM1
    iterate 6 refine wp_step rfl rfl ?_
    rw [show nI i + Int32.ofInt 1 = nI (i + 1) from nI_add i 1]
    refine wp_sld rfl (am_in_nI (by omega) (by omega)) ?_
    rw [nI_clamp (by omega)]
    refine wp_c0 rfl rfl (by decide) rfl (recv_ok hm.1 rfl) rfl (m_selected hm.1 hx.2.2.2.2.2.2.1 hx.2.2.2.2.2.2.2.1 hx.2.2.2.2.2.2.2.2.1 hx60 (fun v T9 J9 e2 hf9 hg9 a9 j0 => ?_) (fun v T9 J9 e2 hf9 hg9 a9 j0 => ?_))
    · rw [eO] at e2; cases e2
      have hf2 := hf9
      have h2 := mRc_1 hm hf9 a9 hg9 (by decide) (by decide) (by decide)
      have hC2 := clI_fr hC1 hf9 (fun j hj => by simp only [List.mem_cons, List.not_mem_nil, or_false] at hj; omega)
      have hM2 : moI T9 v0 mp fk fp fs xs cs b tot re gs B := ⟨J9, _, _, M, E, C, _, F, ch, mb, g, P, h2, moX_up hx hf9 (fun j hj => by simp only [List.mem_cons, List.not_mem_nil, or_false] at hj; omega) h2.1 hg9 (by decide)⟩
      have hO2 : am_get T9 440 = some (lA 1 gg) := by rw [fr_get hf9 (by decide)]; exact hO1
      iterate 2 refine wp_step rfl rfl ?_
      refine wp_c0 rfl rfl (by decide) rfl (recv_ok h2.1 rfl) rfl (q_mthrown h2.1 j0 ?_)
      refine wp_step rfl rfl ?_
      refine wp_icmp_t rfl rfl ?_
      refine wp_step rfl rfl ?_
      refine wp_if_f rfl rfl ?_
      iterate 2 refine wp_step rfl rfl ?_
      refine wp_lald rfl (by decide) hO2 (by decide) ?_
      rw [show (Int32.ofInt 0).toNatClampNeg = 0 from rfl, hgv]
      iterate 3 refine wp_step rfl rfl ?_
      refine wp_if_t rfl (lg_self _) ?_
      refine wp_step rfl rfl ?_
      exact hn _ _ _ _ ⟨rec, sp, v0, mp, fk, fp, fs, xs, cs, b, tot, re, gs, B, hC2, hM2, hp, ⟨_, hO2⟩, roI_up (roI_fr hr1 hf2) (by omega)⟩
    · rw [eO] at e2; cases e2
  · have hC3 := hC
    have hM3 := hM
    have hr3 := hr
    have hg3 := hg0
    have hC1 : clI (am_thrown S) rec sp mp fk fp fs xs cs b tot re gs := hC3
    have hM1 : moI (am_thrown S) v0 mp fk fp fs xs cs b tot re gs B := hM3
    have hr1 := roI_thr hr3
    have hO1 : am_get (am_thrown S) 440 = some (lA 1 g0) := hg3
    generalize am_thrown S = S9 at hC1 hM1 hr1 hO1 ⊢
    have eO := e
    obtain ⟨I, st, li, M, E, C, K, F, ch, mb, g, P, hm, hx⟩ := hM1
    iterate 6 refine wp_step rfl rfl ?_
    rw [show nI i + Int32.ofInt 1 = nI (i + 1) from nI_add i 1]
    refine wp_sld rfl (am_in_nI (by omega) (by omega)) ?_
    rw [nI_clamp (by omega)]
    refine wp_c0 rfl rfl (by decide) rfl (recv_ok hm.1 rfl) rfl (m_selected hm.1 hx.2.2.2.2.2.2.1 hx.2.2.2.2.2.2.2.1 hx.2.2.2.2.2.2.2.2.1 hx60 (fun v T9 J9 e2 hf9 hg9 a9 j0 => ?_) (fun v T9 J9 e2 hf9 hg9 a9 j0 => ?_))
    · rw [eO] at e2; cases e2
    · rw [eO] at e2; cases e2
      have hf2 := hf9
      have h2 := mRc_1 hm hf9 a9 hg9 (by decide) (by decide) (by decide)
      have hC2 := clI_fr hC1 hf9 (fun j hj => by simp only [List.mem_cons, List.not_mem_nil, or_false] at hj; omega)
      have hM2 : moI T9 v0 mp fk fp fs xs cs b tot re gs B := ⟨J9, _, _, M, E, C, _, F, ch, mb, g, P, h2, moX_up hx hf9 (fun j hj => by simp only [List.mem_cons, List.not_mem_nil, or_false] at hj; omega) h2.1 hg9 (by decide)⟩
      have hO2 : am_get T9 440 = some (lA 1 g0) := by rw [fr_get hf9 (by decide)]; exact hO1
      iterate 2 refine wp_step rfl rfl ?_
      refine wp_c0 rfl rfl (by decide) rfl (recv_ok h2.1 rfl) rfl (q_mthrown h2.1 j0 ?_)
      refine wp_step rfl rfl ?_
      refine wp_icmp_t rfl rfl ?_
      refine wp_step rfl rfl ?_
      refine wp_if_t rfl rfl ?_
      refine wp_step rfl rfl ?_
      exact hn _ _ _ _ ⟨rec, sp, v0, mp, fk, fp, fs, xs, cs, b, tot, re, gs, B, hC2, hM2, hp, ⟨_, hO2⟩, roI_up (roI_fr hr1 hf2) (by omega)⟩
set_option maxRecDepth 8192 in
set_option maxHeartbeats 2000000 in
theorem lc_fold (hi : i + 4 ≤ X.1) (hL : X.1 ≤ 2048) (h : lwI S i) (hn : ∀ T y5 y6 y7, lwI T (i + 4) → wp X (d + 30) 176 852 [some (.ref 1000000), some (.ref 0), some (.ref 408), some (.ref 440), some (.int (nI i)), y5, y6, y7] [] T Q) : wp X (d + 30) 176 681 [some (.ref 1000000), some (.ref 0), some (.ref 408), some (.ref 440), some (.int (nI i)), x5, x6, x7] [] S Q := by
  obtain ⟨rec, sp, v0, mp, fk, fp, fs, xs, cs, b, tot, re, gs, B, hC, hM, hp, hO, hr⟩ := h
  obtain ⟨hfs, hfb, hx60, hxe, hcs40, hcs, hb, hB, htot, hRq, hP, hE, hcq, hgl, hgB, hev60⟩ := id hp
  obtain ⟨g0, hg0⟩ := hO
  have h0 := hC.2.1
  obtain ⟨l9, A9, E9, hcl⟩ := clI_R (T := S) hC
  obtain ⟨ch9, hch1, hch2⟩ := hC.2.2.2.2.2.2.2.1
  iterate 5 refine wp_step rfl rfl ?_
  rw [show nI i + Int32.ofInt 1 = nI (i + 1) from nI_add i 1]
  refine wp_sld rfl (am_in_nI (by omega) (by omega)) ?_
  rw [nI_clamp (by omega)]
  iterate 4 refine wp_step rfl rfl ?_
  rw [show nI i + Int32.ofInt 2 = nI (i + 2) from nI_add i 2]
  refine wp_sld rfl (am_in_nI (by omega) (by omega)) ?_
  rw [nI_clamp (by omega)]
  refine wp_step rfl rfl ?_
  refine wp_c0 rfl rfl (by decide) rfl rfl rfl (h_174 h0 (c_fold hcl hx60 hch2 hxe hch1 hC.2.2.2.2.2.2.2.2.2.2.1 (fun v T e hf3 ht3 => RtL_v (by rw [fr_get hf3 (by decide)]; exact hg0) (fun T2 hf4 h4 => ?_)) (fun e => RtL_e (c := 1) (by simp) ?_) (fun T e hf3 ht3 => RtL_e (c := 2) (by simp) ?_)))
  · have hC3 := clI_fold hC hf3 ht3
    have hM3 := moI_fr hM hf3 (fun j hj => by simp only [List.mem_cons, List.not_mem_nil, or_false] at hj; omega)
    have hr3 := roI_fr hr hf3
    have hC1 := clI_fr hC3 hf4 (fun j hj => by simp only [List.mem_cons, List.not_mem_nil, or_false] at hj; omega)
    have hM1 := moI_fr hM3 hf4 (fun j hj => by simp only [List.mem_cons, List.not_mem_nil, or_false] at hj; omega)
    have hr1 := roI_up (roI_fr hr3 hf4) (show i ≤ i + 1 by omega)
    have eO := e
    have hO1 := h4
    generalize hgg : vp_updL g0 0 v = gg at hO1
    have hgv : gg 0 = v := by rw [← hgg]; exact pk_uLs
    obtain ⟨I, st, li, M, E, C, K, F, ch, mb, g, P, hm, hx⟩ := hM1
    iterate 6 refine wp_step rfl rfl ?_
    rw [show nI i + Int32.ofInt 1 = nI (i + 1) from nI_add i 1]
    refine wp_sld rfl (am_in_nI (by omega) (by omega)) ?_
    rw [nI_clamp (by omega)]
    iterate 4 refine wp_step rfl rfl ?_
    rw [show nI i + Int32.ofInt 2 = nI (i + 2) from nI_add i 2]
    refine wp_sld rfl (am_in_nI (by omega) (by omega)) ?_
    rw [nI_clamp (by omega)]
    refine wp_c0 rfl rfl (by decide) rfl (recv_ok hm.1 rfl) rfl (m_fold hb hRq hP hE hm hx.2.2.2.2.2.2.1 hx.2.2.2.2.2.2.2.1 hx.2.2.2.2.2.2.2.2.1 hxe hx60 hx.2.2.2.2.2.2.2.2.2.2.1 (fun v T9 J9 st9 li9 K9 e2 hf9 hg9 hm9 j0 hgx => ?_) (fun v T9 J9 st9 li9 K9 e2 hf9 hg9 hm9 j0 hgx => ?_))
    · rw [eO] at e2; cases e2
      obtain ⟨g9, hg9x⟩ := hgx
      have hf2 := hf9
      have h2 := hm9
      have hC2 := clI_fr hC1 hf9 (fun j hj => by simp only [List.mem_cons, List.not_mem_nil, or_false] at hj; omega)
      have hM2 : moI T9 v0 mp fk fp fs xs cs b tot re gs B := ⟨J9, _, _, M, E, C, _, F, ch, mb, g9, P, h2, moX_fold hx hf9 h2.1 hg9 (by decide) hg9x⟩
      have hO2 : am_get T9 440 = some (lA 1 gg) := by rw [fr_get hf9 (by decide)]; exact hO1
      iterate 2 refine wp_step rfl rfl ?_
      refine wp_c0 rfl rfl (by decide) rfl (recv_ok h2.1 rfl) rfl (q_mthrown h2.1 j0 ?_)
      refine wp_step rfl rfl ?_
      refine wp_icmp_t rfl rfl ?_
      refine wp_step rfl rfl ?_
      refine wp_if_f rfl rfl ?_
      iterate 2 refine wp_step rfl rfl ?_
      refine wp_lald rfl (by decide) hO2 (by decide) ?_
      rw [show (Int32.ofInt 0).toNatClampNeg = 0 from rfl, hgv]
      iterate 2 refine wp_step rfl rfl ?_
      refine wp_if_t rfl (lg_self _) ?_
      refine wp_step rfl rfl ?_
      exact hn _ _ _ _ ⟨rec, sp, v0, mp, fk, fp, fs, xs, cs, b, tot, re, gs, B, hC2, hM2, hp, ⟨_, hO2⟩, roI_up (roI_fr hr1 hf2) (by omega)⟩
    · rw [eO] at e2; cases e2
  · have hC3 := hC
    have hM3 := hM
    have hr3 := hr
    have hg3 := hg0
    have hC1 : clI (am_thrown S) rec sp mp fk fp fs xs cs b tot re gs := hC3
    have hM1 : moI (am_thrown S) v0 mp fk fp fs xs cs b tot re gs B := hM3
    have hr1 := roI_thr hr3
    have hO1 : am_get (am_thrown S) 440 = some (lA 1 g0) := hg3
    generalize am_thrown S = S9 at hC1 hM1 hr1 hO1 ⊢
    have eO := e
    obtain ⟨I, st, li, M, E, C, K, F, ch, mb, g, P, hm, hx⟩ := hM1
    iterate 6 refine wp_step rfl rfl ?_
    rw [show nI i + Int32.ofInt 1 = nI (i + 1) from nI_add i 1]
    refine wp_sld rfl (am_in_nI (by omega) (by omega)) ?_
    rw [nI_clamp (by omega)]
    iterate 4 refine wp_step rfl rfl ?_
    rw [show nI i + Int32.ofInt 2 = nI (i + 2) from nI_add i 2]
    refine wp_sld rfl (am_in_nI (by omega) (by omega)) ?_
    rw [nI_clamp (by omega)]
    refine wp_c0 rfl rfl (by decide) rfl (recv_ok hm.1 rfl) rfl (m_fold hb hRq hP hE hm hx.2.2.2.2.2.2.1 hx.2.2.2.2.2.2.2.1 hx.2.2.2.2.2.2.2.2.1 hxe hx60 hx.2.2.2.2.2.2.2.2.2.2.1 (fun v T9 J9 st9 li9 K9 e2 hf9 hg9 hm9 j0 hgx => ?_) (fun v T9 J9 st9 li9 K9 e2 hf9 hg9 hm9 j0 hgx => ?_))
    · rw [eO] at e2; cases e2
    · rw [eO] at e2; cases e2
      obtain ⟨g9, hg9x⟩ := hgx
      have hf2 := hf9
      have h2 := hm9
      have hC2 := clI_fr hC1 hf9 (fun j hj => by simp only [List.mem_cons, List.not_mem_nil, or_false] at hj; omega)
      have hM2 : moI T9 v0 mp fk fp fs xs cs b tot re gs B := ⟨J9, _, _, M, E, C, _, F, ch, mb, g9, P, h2, moX_fold hx hf9 h2.1 hg9 (by decide) hg9x⟩
      have hO2 : am_get T9 440 = some (lA 1 g0) := by rw [fr_get hf9 (by decide)]; exact hO1
      iterate 2 refine wp_step rfl rfl ?_
      refine wp_c0 rfl rfl (by decide) rfl (recv_ok h2.1 rfl) rfl (q_mthrown h2.1 j0 ?_)
      refine wp_step rfl rfl ?_
      refine wp_icmp_t rfl rfl ?_
      refine wp_step rfl rfl ?_
      refine wp_if_t rfl rfl ?_
      refine wp_step rfl rfl ?_
      exact hn _ _ _ _ ⟨rec, sp, v0, mp, fk, fp, fs, xs, cs, b, tot, re, gs, B, hC2, hM2, hp, ⟨_, hO2⟩, roI_up (roI_fr hr1 hf2) (by omega)⟩
  · have hC3 := clI_fold hC hf3 ht3
    have hM3 := moI_fr hM hf3 (fun j hj => by simp only [List.mem_cons, List.not_mem_nil, or_false] at hj; omega)
    have hr3 := roI_fr hr hf3
    have hg3 : am_get T 440 = some (lA 1 g0) := by rw [fr_get hf3 (by decide)]; exact hg0
    have hC1 : clI (am_thrown T) rec sp mp fk fp fs xs cs b tot re gs := hC3
    have hM1 : moI (am_thrown T) v0 mp fk fp fs xs cs b tot re gs B := hM3
    have hr1 := roI_thr hr3
    have hO1 : am_get (am_thrown T) 440 = some (lA 1 g0) := hg3
    generalize am_thrown T = S9 at hC1 hM1 hr1 hO1 ⊢
    have eO := e
    obtain ⟨I, st, li, M, E, C, K, F, ch, mb, g, P, hm, hx⟩ := hM1
    iterate 6 refine wp_step rfl rfl ?_
    rw [show nI i + Int32.ofInt 1 = nI (i + 1) from nI_add i 1]
    refine wp_sld rfl (am_in_nI (by omega) (by omega)) ?_
    rw [nI_clamp (by omega)]
    iterate 4 refine wp_step rfl rfl ?_
    rw [show nI i + Int32.ofInt 2 = nI (i + 2) from nI_add i 2]
    refine wp_sld rfl (am_in_nI (by omega) (by omega)) ?_
    rw [nI_clamp (by omega)]
    refine wp_c0 rfl rfl (by decide) rfl (recv_ok hm.1 rfl) rfl (m_fold hb hRq hP hE hm hx.2.2.2.2.2.2.1 hx.2.2.2.2.2.2.2.1 hx.2.2.2.2.2.2.2.2.1 hxe hx60 hx.2.2.2.2.2.2.2.2.2.2.1 (fun v T9 J9 st9 li9 K9 e2 hf9 hg9 hm9 j0 hgx => ?_) (fun v T9 J9 st9 li9 K9 e2 hf9 hg9 hm9 j0 hgx => ?_))
    · rw [eO] at e2; cases e2
    · rw [eO] at e2; cases e2
      obtain ⟨g9, hg9x⟩ := hgx
      have hf2 := hf9
      have h2 := hm9
      have hC2 := clI_fr hC1 hf9 (fun j hj => by simp only [List.mem_cons, List.not_mem_nil, or_false] at hj; omega)
      have hM2 : moI T9 v0 mp fk fp fs xs cs b tot re gs B := ⟨J9, _, _, M, E, C, _, F, ch, mb, g9, P, h2, moX_fold hx hf9 h2.1 hg9 (by decide) hg9x⟩
      have hO2 : am_get T9 440 = some (lA 1 g0) := by rw [fr_get hf9 (by decide)]; exact hO1
      iterate 2 refine wp_step rfl rfl ?_
      refine wp_c0 rfl rfl (by decide) rfl (recv_ok h2.1 rfl) rfl (q_mthrown h2.1 j0 ?_)
      refine wp_step rfl rfl ?_
      refine wp_icmp_t rfl rfl ?_
      refine wp_step rfl rfl ?_
      refine wp_if_t rfl rfl ?_
      refine wp_step rfl rfl ?_
      exact hn _ _ _ _ ⟨rec, sp, v0, mp, fk, fp, fs, xs, cs, b, tot, re, gs, B, hC2, hM2, hp, ⟨_, hO2⟩, roI_up (roI_fr hr1 hf2) (by omega)⟩
set_option maxRecDepth 8192 in
set_option maxHeartbeats 2000000 in
theorem lc_grouped (hi : i + 4 ≤ X.1) (hL : X.1 ≤ 2048) (h : lwI S i) (hn : ∀ T y5 y6 y7, lwI T (i + 4) → wp X (d + 30) 176 852 [some (.ref 1000000), some (.ref 0), some (.ref 408), some (.ref 440), some (.int (nI i)), y5, y6, y7] [] T Q) : wp X (d + 30) 176 785 [some (.ref 1000000), some (.ref 0), some (.ref 408), some (.ref 440), some (.int (nI i)), x5, x6, x7] [] S Q := by
  obtain ⟨rec, sp, v0, mp, fk, fp, fs, xs, cs, b, tot, re, gs, B, hC, hM, hp, hO, hr⟩ := h
  obtain ⟨hfs, hfb, hx60, hxe, hcs40, hcs, hb, hB, htot, hRq, hP, hE, hcq, hgl, hgB, hev60⟩ := id hp
  obtain ⟨g0, hg0⟩ := hO
  have h0 := hC.2.1
  obtain ⟨PG, hgr, hgd⟩ := hC.2.2.2.2.2.2.2.2.2.2.2
  iterate 5 refine wp_step rfl rfl ?_
  rw [show nI i + Int32.ofInt 1 = nI (i + 1) from nI_add i 1]
  refine wp_sld rfl (am_in_nI (by omega) (by omega)) ?_
  rw [nI_clamp (by omega)]
  iterate 4 refine wp_step rfl rfl ?_
  rw [show nI i + Int32.ofInt 2 = nI (i + 2) from nI_add i 2]
  refine wp_sld rfl (am_in_nI (by omega) (by omega)) ?_
  rw [nI_clamp (by omega)]
  refine wp_step rfl rfl ?_
  refine wp_c0 rfl rfl (by decide) rfl rfl rfl (h_175 h0 (c_grouped h0 hgr hgd hgl hgB (fun v e => RtL_v hg0 (fun T2 hf4 h4 => ?_)) (fun e => RtL_e (c := 1) (by simp) ?_) (fun e => RtL_e (c := 2) (by simp) ?_)))
  · have hC3 := hC
    have hM3 := hM
    have hr3 := hr
    have hC1 := clI_fr hC3 hf4 (fun j hj => by simp only [List.mem_cons, List.not_mem_nil, or_false] at hj; omega)
    have hM1 := moI_fr hM3 hf4 (fun j hj => by simp only [List.mem_cons, List.not_mem_nil, or_false] at hj; omega)
    have hr1 := roI_up (roI_fr hr3 hf4) (show i ≤ i + 1 by omega)
    have eO := e
    have hO1 := h4
    generalize hgg : vp_updL g0 0 v = gg at hO1
    have hgv : gg 0 = v := by rw [← hgg]; exact pk_uLs
    obtain ⟨I, st, li, M, E, C, K, F, ch, mb, g, P, hm, hx⟩ := hM1
    iterate 6 refine wp_step rfl rfl ?_
    rw [show nI i + Int32.ofInt 1 = nI (i + 1) from nI_add i 1]
    refine wp_sld rfl (am_in_nI (by omega) (by omega)) ?_
    rw [nI_clamp (by omega)]
    iterate 4 refine wp_step rfl rfl ?_
    rw [show nI i + Int32.ofInt 2 = nI (i + 2) from nI_add i 2]
    refine wp_sld rfl (am_in_nI (by omega) (by omega)) ?_
    rw [nI_clamp (by omega)]
    refine wp_c0 rfl rfl (by decide) rfl (recv_ok hm.1 rfl) rfl (m_grouped hm.1 hx.2.2.2.2.2.2.2.2.2.2.2.1 hx.2.2.2.2.2.2.2.2.2.2.2.2.1 hx.2.2.2.2.2.2.2.2.2.2.2.2.2.1 hgl hgB (fun v T9 J9 e2 hf9 hg9 a9 j0 => ?_) (fun v T9 J9 e2 hf9 hg9 a9 j0 => ?_))
    · rw [eO] at e2; cases e2
      have hf2 := hf9
      have h2 := mRc_1 hm hf9 a9 hg9 (by decide) (by decide) (by decide)
      have hC2 := clI_fr hC1 hf9 (fun j hj => by simp only [List.mem_cons, List.not_mem_nil, or_false] at hj; omega)
      have hM2 : moI T9 v0 mp fk fp fs xs cs b tot re gs B := ⟨J9, _, _, M, E, C, _, F, ch, mb, g, P, h2, moX_up hx hf9 (fun j hj => by simp only [List.mem_cons, List.not_mem_nil, or_false] at hj; omega) h2.1 hg9 (by decide)⟩
      have hO2 : am_get T9 440 = some (lA 1 gg) := by rw [fr_get hf9 (by decide)]; exact hO1
      iterate 2 refine wp_step rfl rfl ?_
      refine wp_c0 rfl rfl (by decide) rfl (recv_ok h2.1 rfl) rfl (q_mthrown h2.1 j0 ?_)
      refine wp_step rfl rfl ?_
      refine wp_icmp_t rfl rfl ?_
      refine wp_step rfl rfl ?_
      refine wp_if_f rfl rfl ?_
      iterate 2 refine wp_step rfl rfl ?_
      refine wp_lald rfl (by decide) hO2 (by decide) ?_
      rw [show (Int32.ofInt 0).toNatClampNeg = 0 from rfl, hgv]
      iterate 2 refine wp_step rfl rfl ?_
      refine wp_if_t rfl (lg_self _) ?_
      refine wp_step rfl rfl ?_
      exact hn _ _ _ _ ⟨rec, sp, v0, mp, fk, fp, fs, xs, cs, b, tot, re, gs, B, hC2, hM2, hp, ⟨_, hO2⟩, roI_up (roI_fr hr1 hf2) (by omega)⟩
    · rw [eO] at e2; cases e2
  · have hC3 := hC
    have hM3 := hM
    have hr3 := hr
    have hg3 := hg0
    have hC1 : clI (am_thrown S) rec sp mp fk fp fs xs cs b tot re gs := hC3
    have hM1 : moI (am_thrown S) v0 mp fk fp fs xs cs b tot re gs B := hM3
    have hr1 := roI_thr hr3
    have hO1 : am_get (am_thrown S) 440 = some (lA 1 g0) := hg3
    generalize am_thrown S = S9 at hC1 hM1 hr1 hO1 ⊢
    have eO := e
    obtain ⟨I, st, li, M, E, C, K, F, ch, mb, g, P, hm, hx⟩ := hM1
    iterate 6 refine wp_step rfl rfl ?_
    rw [show nI i + Int32.ofInt 1 = nI (i + 1) from nI_add i 1]
    refine wp_sld rfl (am_in_nI (by omega) (by omega)) ?_
    rw [nI_clamp (by omega)]
    iterate 4 refine wp_step rfl rfl ?_
    rw [show nI i + Int32.ofInt 2 = nI (i + 2) from nI_add i 2]
    refine wp_sld rfl (am_in_nI (by omega) (by omega)) ?_
    rw [nI_clamp (by omega)]
    refine wp_c0 rfl rfl (by decide) rfl (recv_ok hm.1 rfl) rfl (m_grouped hm.1 hx.2.2.2.2.2.2.2.2.2.2.2.1 hx.2.2.2.2.2.2.2.2.2.2.2.2.1 hx.2.2.2.2.2.2.2.2.2.2.2.2.2.1 hgl hgB (fun v T9 J9 e2 hf9 hg9 a9 j0 => ?_) (fun v T9 J9 e2 hf9 hg9 a9 j0 => ?_))
    · rw [eO] at e2; cases e2
    · rw [eO] at e2; cases e2
      have hf2 := hf9
      have h2 := mRc_1 hm hf9 a9 hg9 (by decide) (by decide) (by decide)
      have hC2 := clI_fr hC1 hf9 (fun j hj => by simp only [List.mem_cons, List.not_mem_nil, or_false] at hj; omega)
      have hM2 : moI T9 v0 mp fk fp fs xs cs b tot re gs B := ⟨J9, _, _, M, E, C, _, F, ch, mb, g, P, h2, moX_up hx hf9 (fun j hj => by simp only [List.mem_cons, List.not_mem_nil, or_false] at hj; omega) h2.1 hg9 (by decide)⟩
      have hO2 : am_get T9 440 = some (lA 1 g0) := by rw [fr_get hf9 (by decide)]; exact hO1
      iterate 2 refine wp_step rfl rfl ?_
      refine wp_c0 rfl rfl (by decide) rfl (recv_ok h2.1 rfl) rfl (q_mthrown h2.1 j0 ?_)
      refine wp_step rfl rfl ?_
      refine wp_icmp_t rfl rfl ?_
      refine wp_step rfl rfl ?_
      refine wp_if_t rfl rfl ?_
      refine wp_step rfl rfl ?_
      exact hn _ _ _ _ ⟨rec, sp, v0, mp, fk, fp, fs, xs, cs, b, tot, re, gs, B, hC2, hM2, hp, ⟨_, hO2⟩, roI_up (roI_fr hr1 hf2) (by omega)⟩
  · have hC3 := hC
    have hM3 := hM
    have hr3 := hr
    have hg3 := hg0
    have hC1 : clI (am_thrown S) rec sp mp fk fp fs xs cs b tot re gs := hC3
    have hM1 : moI (am_thrown S) v0 mp fk fp fs xs cs b tot re gs B := hM3
    have hr1 := roI_thr hr3
    have hO1 : am_get (am_thrown S) 440 = some (lA 1 g0) := hg3
    generalize am_thrown S = S9 at hC1 hM1 hr1 hO1 ⊢
    have eO := e
    obtain ⟨I, st, li, M, E, C, K, F, ch, mb, g, P, hm, hx⟩ := hM1
    iterate 6 refine wp_step rfl rfl ?_
    rw [show nI i + Int32.ofInt 1 = nI (i + 1) from nI_add i 1]
    refine wp_sld rfl (am_in_nI (by omega) (by omega)) ?_
    rw [nI_clamp (by omega)]
    iterate 4 refine wp_step rfl rfl ?_
    rw [show nI i + Int32.ofInt 2 = nI (i + 2) from nI_add i 2]
    refine wp_sld rfl (am_in_nI (by omega) (by omega)) ?_
    rw [nI_clamp (by omega)]
    refine wp_c0 rfl rfl (by decide) rfl (recv_ok hm.1 rfl) rfl (m_grouped hm.1 hx.2.2.2.2.2.2.2.2.2.2.2.1 hx.2.2.2.2.2.2.2.2.2.2.2.2.1 hx.2.2.2.2.2.2.2.2.2.2.2.2.2.1 hgl hgB (fun v T9 J9 e2 hf9 hg9 a9 j0 => ?_) (fun v T9 J9 e2 hf9 hg9 a9 j0 => ?_))
    · rw [eO] at e2; cases e2
    · rw [eO] at e2; cases e2
      have hf2 := hf9
      have h2 := mRc_1 hm hf9 a9 hg9 (by decide) (by decide) (by decide)
      have hC2 := clI_fr hC1 hf9 (fun j hj => by simp only [List.mem_cons, List.not_mem_nil, or_false] at hj; omega)
      have hM2 : moI T9 v0 mp fk fp fs xs cs b tot re gs B := ⟨J9, _, _, M, E, C, _, F, ch, mb, g, P, h2, moX_up hx hf9 (fun j hj => by simp only [List.mem_cons, List.not_mem_nil, or_false] at hj; omega) h2.1 hg9 (by decide)⟩
      have hO2 : am_get T9 440 = some (lA 1 g0) := by rw [fr_get hf9 (by decide)]; exact hO1
      iterate 2 refine wp_step rfl rfl ?_
      refine wp_c0 rfl rfl (by decide) rfl (recv_ok h2.1 rfl) rfl (q_mthrown h2.1 j0 ?_)
      refine wp_step rfl rfl ?_
      refine wp_icmp_t rfl rfl ?_
      refine wp_step rfl rfl ?_
      refine wp_if_t rfl rfl ?_
      refine wp_step rfl rfl ?_
      exact hn _ _ _ _ ⟨rec, sp, v0, mp, fk, fp, fs, xs, cs, b, tot, re, gs, B, hC2, hM2, hp, ⟨_, hO2⟩, roI_up (roI_fr hr1 hf2) (by omega)⟩
end LAWQ
