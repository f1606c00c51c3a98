/-! THE MODEL: a checkpoint -/
theorem okK_knM {τ : jTT} (hw : wfT τ) {ty : Nat} (hty : ty < 2 ^ 31) (h : okK τ ty = true) : knM τ ty := by
  unfold okK at h
  rw [Bool.or_eq_true] at h
  rcases h with h | h
  · exact Or.inl (of_decide_eq_true h)
  · obtain ⟨t, x, h1, h2, h3⟩ := kdb_iff.mp h
    have := tix_ten hw h1
    exact Or.inr ⟨by omega, hty, t, x, h1, h2, h3⟩
theorem kdb_tixk {τ : jTT} (hw : wfT τ) {w k : Nat} : kdb τ w k = true ↔ ∃ t, tixk τ w k = some t := by
  constructor
  · intro h
    obtain ⟨t, x, h1, h2, h3⟩ := kdb_iff.mp h
    exact ⟨t, tixk_of hw h1 h2 h3⟩
  · rintro ⟨t, h⟩
    obtain ⟨h1, x, h2, h3⟩ := tixk_tix hw h
    exact kdb_iff.mpr ⟨t, x, h1, h2, h3⟩
section MCP
variable {X : Nat × (Nat → Int32)} {d : Nat} {Q : am_R → Prop} {st li : Int64} {b : Nat → Nat} {w lim sl : Nat} {τ : jTT} {M : jMT}
theorem cx_26 {T : am_S} {J : Nat → Int32} {k : Int32} {pl : Nat} {z1 z2 z3 z4 : Int32} {x5 x6 x8 x9 : Option Value} (hx : mX T J st li k pl) (hq : ∀ z, Q (.inl (some (.int z)), T)) : wp X d 121 26 [some (.ref 408), some (.int z1), some (.int z2), some (.int z3), some (.int z4), x5, x6, none, x8, x9] [] T Q := by
  iterate 2 refine wp_step rfl rfl ?_
  refine wp_icmp rfl (fun c0 => ?_) (fun c0 => ?_)
  · refine wp_step rfl rfl ?_
    refine wp_iret rfl rfl rfl (hq z2)
  · refine wp_step rfl rfl ?_
    refine wp_getg (v := (.int k)) rfl hx.1 (by decide) (congrArg Value.int hx.2.1) ?_
    refine wp_if_t rfl (c1_ne0 hx.2.2.1) ?_
    refine wp_step rfl rfl ?_
    refine wp_iret rfl rfl rfl (hq z2)
theorem cx_114 {T : am_S} {J : Nat → Int32} {k : Int32} {pl : Nat} {z1 z2 z3 z4 : Int32} {x5 : Option Value} {z6 : Int64} {z8 z9 : Int32} (hx : mX T J st li k pl) (hq : ∀ z, Q (.inl (some (.int z)), T)) : wp X d 121 114 [some (.ref 408), some (.int z1), some (.int z2), some (.int z3), some (.int z4), x5, some (.long z6), none, some (.int z8), some (.int z9)] [] T Q := by
  iterate 2 refine wp_step rfl rfl ?_
  refine wp_icmp rfl (fun c0 => ?_) (fun c0 => ?_)
  · iterate 2 refine wp_step rfl rfl ?_
    exact cx_26 hx hq
  · refine wp_step rfl rfl ?_
    refine wp_getg (v := (.int k)) rfl hx.1 (by decide) (congrArg Value.int hx.2.1) ?_
    refine wp_if_t rfl (c1_ne0 hx.2.2.1) ?_
    iterate 2 refine wp_step rfl rfl ?_
    exact cx_26 hx hq
theorem cx_170 {T : am_S} {J : Nat → Int32} {k : Int32} {pl : Nat} {z1 z2 z3 z4 : Int32} {x5 : Option Value} {z6 : Int64} {z8 z9 : Int32} (hx : mX T J st li k pl) (hq : ∀ z, Q (.inl (some (.int z)), T)) : wp X d 121 170 [some (.ref 408), some (.int z1), some (.int z2), some (.int z3), some (.int z4), x5, some (.long z6), none, some (.int z8), some (.int z9)] [] T Q := by
  iterate 3 refine wp_step rfl rfl ?_
  exact cx_114 hx hq
theorem cx_156 {T : am_S} {J : Nat → Int32} {k : Int32} {pl : Nat} {z1 z2 z3 z4 : Int32} {x5 : Option Value} {z6 : Int64} {z8 z9 : Int32} (hx : mX T J st li k pl) (hq : ∀ z, Q (.inl (some (.int z)), T)) : wp X d 121 156 [some (.ref 408), some (.int z1), some (.int z2), some (.int z3), some (.int z4), x5, some (.long z6), none, some (.int z8), some (.int z9)] [] T Q := by
  refine wp_step rfl rfl ?_
  refine wp_getg (v := (.int k)) rfl hx.1 (by decide) (congrArg Value.int hx.2.1) ?_
  refine wp_if_t rfl (c1_ne0 hx.2.2.1) ?_
  exact cx_170 hx hq
theorem cx_144 {T : am_S} {J : Nat → Int32} {k : Int32} {pl : Nat} {z1 z2 z3 z4 : Int32} {x5 : Option Value} {z6 : Int64} {z8 z9 : Int32} (hx : mX T J st li k pl) (hq : ∀ z, Q (.inl (some (.int z)), T)) : wp X d 121 144 [some (.ref 408), some (.int z1), some (.int z2), some (.int z3), some (.int z4), x5, some (.long z6), none, some (.int z8), some (.int z9)] [] T Q := by
  refine wp_step rfl rfl ?_
  refine wp_getg (v := (.int k)) rfl hx.1 (by decide) (congrArg Value.int hx.2.1) ?_
  refine wp_if_t rfl (c1_ne0 hx.2.2.1) ?_
  exact cx_156 hx hq
theorem cx_109 {T : am_S} {J : Nat → Int32} {k : Int32} {pl : Nat} {z1 z2 z3 z4 : Int32} {x5 : Option Value} {z6 : Int64} {z8 : Int32} {x8 x9 : Option Value} (hx : mX T J st li k pl) (hq : ∀ z, Q (.inl (some (.int z)), T)) : wp X d 121 109 [some (.ref 408), some (.int z1), some (.int z2), some (.int z3), some (.int z4), x5, some (.long z6), none, x8, x9] [.int z8] T Q := by
  iterate 3 refine wp_step rfl rfl ?_
  show wp X d 121 114 [some (.ref 408), some (.int z1), some (.int z2), some (.int z3), some (.int z4), x5, some (.long z6), none, some (.int z8), some (.int (nI 0))] [] T Q
  exact cx_114 hx hq
theorem cx_94 {T : am_S} {J : Nat → Int32} {k : Int32} {pl : Nat} {z1 z2 z3 z4 : Int32} {x5 : Option Value} {z6 : Int64} {x8 x9 : Option Value} (hx : mX T J st li k pl) (hq : ∀ z, Q (.inl (some (.int z)), T)) : wp X d 121 94 [some (.ref 408), some (.int z1), some (.int z2), some (.int z3), some (.int z4), x5, some (.long z6), none, x8, x9] [] T Q := by
  refine wp_step rfl rfl ?_
  refine wp_getg (v := (.int k)) rfl hx.1 (by decide) (congrArg Value.int hx.2.1) ?_
  refine wp_if_t rfl (c1_ne0 hx.2.2.1) ?_
  refine wp_step rfl rfl ?_
  exact cx_109 hx hq
set_option maxHeartbeats 1000000 in
theorem ci_loop {ty many : Nat} {x5 : Option Value} {z1 z3 z4 : Int32} (hb : ∀ j, b j < 256) (hwf : wfT τ) (hfh : fht τ) (hT : mTy M sl τ) (hsl : sl < 8) (hkn : knM τ ty) (hsf : sf τ 21 ty 0) (hmany : many < 2 ^ 31) : ∀ (m c p n : Nat) (ks : List jK) (S : am_S) (I : Nat → Int32) (K : jMK), c + m = many → ks.length ≤ 40 → mR S I st li b w p lim → mSk S K → mV I true n → I 20 = nI sl → mTa S M →
    (∀ p' n' ks' T J K', rdKs τ b lim ty m p n ks = .inr (p', n', ks') → fr [408, 425, 426, 427] S T → gf [21, 24, 29] I J → mR T J st li b w p' lim → mSk T K' → mV J true n' → ks'.length ≤ 40 → wp X (d + 8) 121 179 [some (.ref 408), some (.int z1), some (.int (nI ks'.length)), some (.int z3), some (.int z4), x5, some (.long (lN ty)), none, some (.int (nI many)), some (.int (nI many))] [] T Q) →
    (∀ k pl z T J K', rdKs τ b lim ty m p n ks = .inl (k, pl) → fr [408, 425, 426, 427] S T → gf [21, 24, 25, 26, 29] I J → mX T J st li k pl → mSk T K' → Q (.inl (some (.int z)), T)) → wp X (d + 8) 121 114 [some (.ref 408), some (.int z1), some (.int (nI ks.length)), some (.int z3), some (.int z4), x5, some (.long (lN ty)), none, some (.int (nI many)), some (.int (nI c))] [] S Q := by
  intro m
  induction m with
  | zero =>
    intro c p n ks S I K hc h40 h hK hV h20 hM hret hbad
    have e9 : c = many := by omega
    subst e9
    iterate 2 refine wp_step rfl rfl ?_
    refine wp_icmp rfl (fun c0 => ?_) (fun c0 => ?_)
    · replace c0 := n_ge_t (a := c) (b := c) (by omega) (by omega) c0
      exact hret p n ks S I K rfl (fr_refl _ _) (gf_refl _ _) h hK hV h40
    · replace c0 := n_ge_f (a := c) (b := c) (by omega) (by omega) c0
      omega
  | succ m ih =>
    intro c p n ks S I K hc h40 h hK hV h20 hM hret hbad
    iterate 2 refine wp_step rfl rfl ?_
    refine wp_icmp rfl (fun c0 => ?_) (fun c0 => ?_)
    · replace c0 := n_ge_t (a := c) (b := many) (by omega) (by omega) c0
      omega
    · replace c0 := n_ge_f (a := c) (b := many) (by omega) (by omega) c0
      refine wp_step rfl rfl ?_
      refine wp_getg (v := (.int 0)) rfl h.1 (by decide) (congrArg Value.int h.2.2.2.2.2.1) ?_
      refine wp_if_f rfl rfl ?_
      iterate 2 refine wp_step rfl rfl ?_
      refine wp_icmp rfl (fun c1 => ?_) (fun c1 => ?_)
      · replace c1 := n_ne_t (a := ks.length) (b := 40) (by omega) (by omega) c1
        refine wp_step rfl rfl ?_
        refine wp_getg (v := (.int 0)) rfl h.1 (by decide) (congrArg Value.int h.2.2.2.2.2.1) ?_
        refine wp_if_f rfl rfl ?_
        refine wp_step rfl rfl ?_
        refine wp_c0 rfl rfl (by decide) rfl (recv_ok h.1 rfl) rfl (q_mcomp hb h (fun key q T J e1 hf1 hg1 h1 => ?_) (fun v T J e1 hf1 hg1 h1 hq1 => ?_))
        · refine wp_step rfl rfl ?_
          refine wp_step rfl rfl ?_
          refine wp_getg (v := (.int 0)) rfl h1.1 (by decide) (congrArg Value.int h1.2.2.2.2.2.1) ?_
          refine wp_if_f rfl rfl ?_
          iterate 3 refine wp_step rfl rfl ?_
          refine wp_c0 rfl rfl (by decide) rfl (recv_ok h1.1 rfl) rfl (q_mpass (d := d) (fl := 0) hb hwf hfh hT hsl hkn (by decide) hsf h1 (mSk_fr hK hf1 (fun j hj => by simp only [List.mem_cons, List.not_mem_nil, or_false] at hj; omega)) (mV_gf hV hg1 (by decide) (by decide)) ((hg1 20 (by decide)).trans h20) (mTa_fr hM hf1 (fun j hj => by simp only [List.mem_cons, List.not_mem_nil, or_false] at hj; omega)) (fun p2 n2 T2 J2 K2 e2 hf2 hg2 h2 hK2 hV2 => ?_) (fun k pl T2 J2 K2 e2 hf2 hg2 h2 hK2 hq2 => ?_))
          · refine wp_step rfl rfl ?_
            rw [show nI ks.length + Int32.ofInt 1 = nI (ks.length + 1) from nI_add ks.length 1]
            refine wp_step rfl rfl ?_
            rw [show nI c + Int32.ofInt 1 = nI (c + 1) from nI_add c 1]
            refine wp_step rfl rfl ?_
            have hlen : (ks ++ [((ty, key, q, n) : jK)]).length = ks.length + 1 := by simp
            have hf12 := fr_trans (fr_mono (ks := [408, 425, 426, 427]) hf1 (fun j hj => by simp only [List.mem_cons, List.not_mem_nil, or_false] at hj ⊢; omega)) hf2
            have hg12 : gf [21, 24, 29] I J2 := gf_trans (gf_mono hg1 (fun j hj => by simp only [List.mem_cons, List.not_mem_nil, or_false] at hj ⊢; omega)) hg2
            show wp X (d + 8) 121 114 [some (.ref 408), some (.int z1), some (.int (nI (ks.length + 1))), some (.int z3), some (.int z4), x5, some (.long (lN ty)), none, some (.int (nI many)), some (.int (nI (c + 1)))] [] T2 Q
            rw [← hlen]
            refine ih (c + 1) p2 n2 (ks ++ [(ty, key, q, n)]) T2 J2 K2 (by omega) (by rw [hlen]; omega) h2 hK2 hV2 ((hg12 20 (by decide)).trans h20) (mTa_fr hM hf12 (fun j hj => by simp only [List.mem_cons, List.not_mem_nil, or_false] at hj; omega)) (fun p3 n3 ks3 T3 J3 K3 e3 hf3 hg3 h3 hK3 hV3 => ?_) (fun k pl zz T3 J3 K3 e3 hf3 hg3 h3 hK3 => ?_)
            · exact hret p3 n3 ks3 T3 J3 K3 (by unfold rdKs; rw [if_neg c1, e1]; dsimp only; rw [e2]; exact e3) (fr_trans hf12 hf3) (gf_trans hg12 hg3) h3 hK3 hV3
            · exact hbad k pl zz T3 J3 K3 (by unfold rdKs; rw [if_neg c1, e1]; dsimp only; rw [e2]; exact e3) (fr_trans hf12 hf3) (gf_trans (gf_mono hg12 (fun j hj => by simp only [List.mem_cons, List.not_mem_nil, or_false] at hj ⊢; omega)) hg3) h3 hK3
          · exact cx_170 h2 (fun z => hbad k pl z T2 J2 K2 (by unfold rdKs; rw [if_neg c1, e1]; dsimp only; rw [e2]) (fr_trans (fr_mono hf1 (fun j hj => by simp only [List.mem_cons, List.not_mem_nil, or_false] at hj ⊢; omega)) hf2) (gf_trans (gf_mono hg1 (fun j hj => by simp only [List.mem_cons, List.not_mem_nil, or_false] at hj ⊢; omega)) hg2) h2 hK2)
        · refine wp_step rfl rfl ?_
          exact cx_156 h1 (fun z => hbad 2 p z T J K (by unfold rdKs; rw [if_neg c1, e1]) (fr_mono hf1 (fun j hj => by simp only [List.mem_cons, List.not_mem_nil, or_false] at hj ⊢; omega)) (gf_mono hg1 (fun j hj => by simp only [List.mem_cons, List.not_mem_nil, or_false] at hj ⊢; omega)) h1 (mSk_fr hK hf1 (fun j hj => by simp only [List.mem_cons, List.not_mem_nil, or_false] at hj; omega)))
      · replace c1 := n_ne_f (a := ks.length) (b := 40) (by omega) (by omega) c1
        iterate 3 refine wp_step rfl rfl ?_
        refine wp_getg (v := (.int (nI p))) rfl h.1 (by decide) (congrArg Value.int h.2.2.2.1) ?_
        refine wp_c0 rfl rfl (by decide) rfl (recv_ok h.1 rfl) rfl (q_mwrong h.1 h.2.2.2.2.2.1 (fun T hf1 h1 => ?_))
        exact cx_144 ⟨h1, pk_us, by decide, (pk_un (by decide)).trans pk_us⟩ (fun z => hbad 8 p z T _ K (by unfold rdKs; rw [if_pos c1]) (fr_mono hf1 (fun j hj => by simp only [List.mem_cons, List.not_mem_nil, or_false] at hj ⊢; omega)) (gf_up (gf_up (gf_refl _ _) (by simp)) (by simp)) ⟨h1, pk_us, by decide, (pk_un (by decide)).trans pk_us⟩ (mSk_fr hK hf1 (fun j hj => by simp only [List.mem_cons, List.not_mem_nil, or_false] at hj; omega)))
set_option maxHeartbeats 2000000 in
theorem co_loop {pools : Nat} {z1 : Int32} (hb : ∀ j, b j < 256) (hwf : wfT τ) (hfh : fht τ) (hnc : nocyc τ) (hT : mTy M sl τ) (hsl : sl < 8) (hpools : pools < 2 ^ 31) : ∀ (m i p n : Nat) (ks : List jK) (S : am_S) (I : Nat → Int32) (K : jMK) (x5 x6 x8 x9 : Option Value), i + m = pools → ks.length ≤ 40 → mR S I st li b w p lim → mSk S K → mV I true n → I 20 = nI sl → mTa S M →
    (∀ p' n' ks' T J K', rdPs τ b lim m p n ks = .inr (p', n', ks') → fr [408, 425, 426, 427] S T → gf [21, 24, 29] I J → mR T J st li b w p' lim → mSk T K' → mV J true n' → ks'.length ≤ 40 → Q (.inl (some (.int (nI ks'.length))), T)) →
    (∀ k pl z T J K', rdPs τ b lim m p n ks = .inl (k, pl) → fr [408, 425, 426, 427] S T → gf [21, 24, 25, 26, 29] I J → mX T J st li k pl → mSk T K' → Q (.inl (some (.int z)), T)) → wp X (d + 8) 121 26 [some (.ref 408), some (.int z1), some (.int (nI ks.length)), some (.int (nI pools)), some (.int (nI i)), x5, x6, none, x8, x9] [] S Q := by
  intro m
  induction m with
  | zero =>
    intro i p n ks S I K x5 x6 x8 x9 hi h40 h hK hV h20 hM hret hbad
    have e9 : i = pools := by omega
    subst e9
    iterate 2 refine wp_step rfl rfl ?_
    refine wp_icmp rfl (fun c0 => ?_) (fun c0 => ?_)
    · replace c0 := n_ge_t (a := i) (b := i) (by omega) (by omega) c0
      refine wp_step rfl rfl ?_
      refine wp_iret rfl rfl rfl (hret p n ks S I K rfl (fr_refl _ _) (gf_refl _ _) h hK hV h40)
    · replace c0 := n_ge_f (a := i) (b := i) (by omega) (by omega) c0
      omega
  | succ m ih =>
    intro i p n ks S I K x5 x6 x8 x9 hi h40 h hK hV h20 hM hret hbad
    iterate 2 refine wp_step rfl rfl ?_
    refine wp_icmp rfl (fun c0 => ?_) (fun c0 => ?_)
    · replace c0 := n_ge_t (a := i) (b := pools) (by omega) (by omega) c0
      omega
    · replace c0 := n_ge_f (a := i) (b := pools) (by omega) (by omega) c0
      refine wp_step rfl rfl ?_
      refine wp_getg (v := (.int 0)) rfl h.1 (by decide) (congrArg Value.int h.2.2.2.2.2.1) ?_
      refine wp_if_f rfl rfl ?_
      refine wp_step rfl rfl ?_
      refine wp_getg (v := (.int (nI p))) rfl h.1 (by decide) (congrArg Value.int h.2.2.2.1) ?_
      iterate 2 refine wp_step rfl rfl ?_
      refine wp_c0 rfl rfl (by decide) rfl (recv_ok h.1 rfl) rfl (q_msmall hb h (fun ty q T J e1 hf1 hg1 h1 => ?_) (fun T J e1 hf1 hg1 h1 hq1 => ?_))
      · have hcl := cnt_lt e1
        have hK1 := mSk_fr hK hf1 (fun j hj => by simp only [List.mem_cons, List.not_mem_nil, or_false] at hj; omega)
        have hM1 := mTa_fr hM hf1 (fun j hj => by simp only [List.mem_cons, List.not_mem_nil, or_false] at hj; omega)
        have hV1 := mV_gf hV hg1 (by decide) (by decide)
        have h201 : J 20 = nI sl := (hg1 20 (by decide)).trans h20
        have hf1J := fr_mono (ks := [408, 425, 426, 427]) hf1 (fun j hj => by simp only [List.mem_cons, List.not_mem_nil, or_false] at hj ⊢; omega)
        have hg1J := gf_mono (ls := [21, 24, 29]) hg1 (fun j hj => by simp only [List.mem_cons, List.not_mem_nil, or_false] at hj ⊢; omega)
        refine wp_step rfl rfl ?_
        rw [nI_l hcl.1]
        refine wp_step rfl rfl ?_
        show wp X (d + 8) 121 52 [some (.ref 408), some (.int z1), some (.int (nI ks.length)), some (.int (nI pools)), some (.int (nI i)), some (.int (nI p)), some (.long (lN ty)), none, x8, x9] [] T Q
        have G : okK τ ty = true → wp X (d + 8) 121 94 [some (.ref 408), some (.int z1), some (.int (nI ks.length)), some (.int (nI pools)), some (.int (nI i)), some (.int (nI p)), some (.long (lN ty)), none, x8, x9] [] T Q := by
          intro hok
          refine wp_step rfl rfl ?_
          refine wp_getg (v := (.int 0)) rfl h1.1 (by decide) (congrArg Value.int h1.2.2.2.2.2.1) ?_
          refine wp_if_f rfl rfl ?_
          refine wp_step rfl rfl ?_
          refine wp_c0 rfl rfl (by decide) rfl (recv_ok h1.1 rfl) rfl (q_msmall hb h1 (fun many q2 T2 J2 e2 hf2 hg2 h2 => ?_) (fun T2 J2 e2 hf2 hg2 h2 hq2 => ?_))
          · have hcl2 := cnt_lt e2
            iterate 4 refine wp_step rfl rfl ?_
            show wp X (d + 8) 121 114 [some (.ref 408), some (.int z1), some (.int (nI ks.length)), some (.int (nI pools)), some (.int (nI i)), some (.int (nI p)), some (.long (lN ty)), none, some (.int (nI many)), some (.int (nI 0))] [] T2 Q
            have hkn := okK_knM hwf hcl.1 hok
            refine ci_loop hb hwf hfh hT hsl hkn (sf_ty hwf hfh hnc hkn (by decide)) hcl2.1 many 0 q2 n ks T2 J2 K (by omega) h40 h2 (mSk_fr hK1 hf2 (fun j hj => by simp only [List.mem_cons, List.not_mem_nil, or_false] at hj; omega)) (mV_gf hV1 hg2 (by decide) (by decide)) ((hg2 20 (by decide)).trans h201) (mTa_fr hM1 hf2 (fun j hj => by simp only [List.mem_cons, List.not_mem_nil, or_false] at hj; omega)) (fun p3 n3 ks3 T3 J3 K3 e3 hf3 hg3 h3 hK3 hV3 h403 => ?_) (fun k pl zz T3 J3 K3 e3 hf3 hg3 h3 hK3 => ?_)
            · have hf13 := (fr_trans hf1J (fr_trans (fr_mono hf2 (fun j hj => by simp only [List.mem_cons, List.not_mem_nil, or_false] at hj ⊢; omega)) hf3))
              have hg13 : gf [21, 24, 29] I J3 := gf_trans hg1J (gf_trans (gf_mono hg2 (fun j hj => by simp only [List.mem_cons, List.not_mem_nil, or_false] at hj ⊢; omega)) hg3)
              iterate 2 refine wp_step rfl rfl ?_
              rw [show nI i + Int32.ofInt 1 = nI (i + 1) from nI_add i 1]
              exact ih (i + 1) p3 n3 ks3 T3 J3 K3 _ _ _ _ (by omega) h403 h3 hK3 hV3 ((hg13 20 (by decide)).trans h20) (mTa_fr hM hf13 (fun j hj => by simp only [List.mem_cons, List.not_mem_nil, or_false] at hj; omega)) (fun p4 n4 ks4 T4 J4 K4 e4 hf4 hg4 h4 hK4 hV4 => hret p4 n4 ks4 T4 J4 K4 (by unfold rdPs; rw [e1]; dsimp only; rw [if_neg (by rw [hok]; decide), e2]; dsimp only; rw [e3]; exact e4) (fr_trans hf13 hf4) (gf_trans hg13 hg4) h4 hK4 hV4) (fun k pl zz T4 J4 K4 e4 hf4 hg4 h4 hK4 => hbad k pl zz T4 J4 K4 (by unfold rdPs; rw [e1]; dsimp only; rw [if_neg (by rw [hok]; decide), e2]; dsimp only; rw [e3]; exact e4) (fr_trans hf13 hf4) (gf_trans (gf_mono hg13 (fun j hj => by simp only [List.mem_cons, List.not_mem_nil, or_false] at hj ⊢; omega)) hg4) h4 hK4)
            · exact hbad k pl zz T3 J3 K3 (by unfold rdPs; rw [e1]; dsimp only; rw [if_neg (by rw [hok]; decide), e2]; dsimp only; rw [e3]) (fr_trans hf1J (fr_trans (fr_mono hf2 (fun j hj => by simp only [List.mem_cons, List.not_mem_nil, or_false] at hj ⊢; omega)) hf3)) (gf_trans (gf_mono hg1 (fun j hj => by simp only [List.mem_cons, List.not_mem_nil, or_false] at hj ⊢; omega)) (gf_trans (gf_mono hg2 (fun j hj => by simp only [List.mem_cons, List.not_mem_nil, or_false] at hj ⊢; omega)) hg3)) h3 hK3
          · refine wp_step rfl rfl ?_
            exact cx_109 h2 (fun z => hbad 2 q z T2 J2 K (by unfold rdPs; rw [e1]; dsimp only; rw [if_neg (by rw [hok]; decide), e2]) (fr_trans hf1J (fr_mono hf2 (fun j hj => by simp only [List.mem_cons, List.not_mem_nil, or_false] at hj ⊢; omega))) (gf_trans (gf_mono hg1 (fun j hj => by simp only [List.mem_cons, List.not_mem_nil, or_false] at hj ⊢; omega)) (gf_mono hg2 (fun j hj => by simp only [List.mem_cons, List.not_mem_nil, or_false] at hj ⊢; omega))) h2 (mSk_fr hK1 hf2 (fun j hj => by simp only [List.mem_cons, List.not_mem_nil, or_false] at hj; omega)))
        have T7 : ¬ (2 ≤ ty ∧ ty ≤ 10) → wp X (d + 8) 121 77 [some (.ref 408), some (.int z1), some (.int (nI ks.length)), some (.int (nI pools)), some (.int (nI i)), some (.int (nI p)), some (.long (lN ty)), none, x8, x9] [] T Q := by
          intro hnp
          iterate 3 refine wp_step rfl rfl ?_
          refine wp_c0 rfl rfl (by decide) rfl (recv_ok h1.1 rfl) rfl (q_mtypeOf (kd := some 0) h1.1 h201 hM1 hT hsl hwf.1 hcl.1 (fun k hk => by cases hk; decide) (fun i z hz => by have := (wf_ty hwf hz).1; unfold tyOK at this; omega) ?_)
          cases et : tixk τ ty 0 with
          | none =>
            rw [show tof τ ty (some 0) = none from et]
            refine wp_if_f rfl rfl ?_
            iterate 3 refine wp_step rfl rfl ?_
            refine wp_c0 rfl rfl (by decide) rfl (recv_ok h1.1 rfl) rfl (q_mwrong h1.1 h1.2.2.2.2.2.1 (fun T2 hf2 h2 => ?_))
            have hno : okK τ ty = false := by
              unfold okK
              rw [decide_eq_false hnp]
              cases e9 : kdb τ ty 0 with
              | true => obtain ⟨t, ht⟩ := (kdb_tixk hwf).mp e9; rw [et] at ht; cases ht
              | false => rfl
            exact cx_94 ⟨h2, pk_us, by decide, (pk_un (by decide)).trans pk_us⟩ (fun z => hbad 3 p z T2 _ K (by unfold rdPs; rw [e1]; dsimp only; rw [if_pos hno]) (fr_trans hf1J (fr_mono hf2 (fun j hj => by simp only [List.mem_cons, List.not_mem_nil, or_false] at hj ⊢; omega))) (gf_up (gf_up (gf_mono hg1 (fun j hj => by simp only [List.mem_cons, List.not_mem_nil, or_false] at hj ⊢; omega)) (by simp)) (by simp)) ⟨h2, pk_us, by decide, (pk_un (by decide)).trans pk_us⟩ (mSk_fr hK1 hf2 (fun j hj => by simp only [List.mem_cons, List.not_mem_nil, or_false] at hj; omega)))
          | some u =>
            have hul : u < τ.length := by
              have := fsti_some et
              omega
            have hwl := hwf.1
            rw [show tof τ ty (some 0) = some u from et]
            unfold mO
            dsimp only
            refine wp_if rfl (fun c9 => ?_) (fun c9 => ?_)
            · replace c9 := z_ge_t (a := 10 * sl + u) (by omega) c9
              exact G (by unfold okK; rw [(kdb_tixk hwf).mpr ⟨u, et⟩]; simp)
            · replace c9 := z_ge_f (a := 10 * sl + u) (by omega) c9
              exact c9.elim
        refine wp_step rfl rfl ?_
        refine wp_getg (v := (.int 0)) rfl h1.1 (by decide) (congrArg Value.int h1.2.2.2.2.2.1) ?_
        refine wp_if_f rfl rfl ?_
        iterate 3 refine wp_step rfl rfl ?_
        refine wp_if rfl (fun c2 => ?_) (fun c2 => ?_)
        · replace c2 := l_lt_t c2
          exact T7 (fun h9 => by have := (lN_lt hcl.1 (by decide)).mp (show lN ty < lN 2 from c2); omega)
        · replace c2 := l_lt_f c2
          have h2t : 2 ≤ ty := by
            by_cases g : 2 ≤ ty
            · exact g
            · exact absurd ((lN_lt hcl.1 (by decide)).mpr (show ty < 2 by omega)) c2
          iterate 3 refine wp_step rfl rfl ?_
          refine wp_if rfl (fun c3 => ?_) (fun c3 => ?_)
          · replace c3 := l_le_t c3
            have h9b : ty ≤ 10 := (lN_le hcl.1 (by decide)).mp c3
            exact G (by unfold okK; rw [decide_eq_true ⟨h2t, h9b⟩]; rfl)
          · replace c3 := l_le_f c3
            exact T7 (fun h9 => c3 ((lN_le hcl.1 (by decide)).mpr h9.2))
      · iterate 2 refine wp_step rfl rfl ?_
        show wp X (d + 8) 121 52 [some (.ref 408), some (.int z1), some (.int (nI ks.length)), some (.int (nI pools)), some (.int (nI i)), some (.int (nI p)), some (.long (Int32.toInt64 0)), none, x8, x9] [] T Q
        refine wp_step rfl rfl ?_
        refine wp_getg (v := (.int 2)) rfl h1.1 (by decide) (congrArg Value.int h1.2.1) ?_
        refine wp_if_t rfl rfl ?_
        exact cx_94 h1 (fun z => hbad 2 p z T J K (by unfold rdPs; rw [e1]) (fr_mono hf1 (fun j hj => by simp only [List.mem_cons, List.not_mem_nil, or_false] at hj ⊢; omega)) (gf_mono hg1 (fun j hj => by simp only [List.mem_cons, List.not_mem_nil, or_false] at hj ⊢; omega)) h1 (mSk_fr hK hf1 (fun j hj => by simp only [List.mem_cons, List.not_mem_nil, or_false] at hj; omega)))
set_option maxHeartbeats 1000000 in
theorem q_mcp {S : am_S} {I : Nat → Int32} {K : jMK} {p n : Nat} {ks : List jK} (hb : ∀ j, b j < 256) (hwf : wfT τ) (hfh : fht τ) (hnc : nocyc τ) (hT : mTy M sl τ) (hsl : sl < 8) (h40 : ks.length ≤ 40) (h : mR S I st li b w p lim) (hK : mSk S K) (hV : mV I true n) (h20 : I 20 = nI sl) (hM : mTa S M)
    (hret : ∀ dl p' n' ks' T J K', rdCp τ b lim p n ks = .inr (dl, p', n', ks') → fr [408, 425, 426, 427] S T → gf [21, 24, 29] I J → mR T J st li b w p' lim → mSk T K' → mV J true n' → ks'.length ≤ 40 → Q (.inl (some (.int (nI ks'.length))), T))
    (hbad : ∀ k pl z T J K', rdCp τ b lim p n ks = .inl (k, pl) → fr [408, 425, 426, 427] S T → gf [21, 24, 25, 26, 29] I J → mX T J st li k pl → mSk T K' → Q (.inl (some (.int z)), T)) : ev X (d + 9) 121 [.ref 408, .int (nI ks.length)] S Q := by
  refine ev_wp (L0 := [some (.ref 408), some (.int (nI ks.length)), none, none, none, none, none, none, none, none]) (Nat.le_of_ble_eq_true rfl) rfl ?_
  iterate 3 refine wp_step rfl rfl ?_
  refine wp_c0 rfl rfl (by decide) rfl (recv_ok h.1 rfl) rfl (q_msmall hb h (fun dl q T J e1 hf1 hg1 h1 => ?_) (fun T J e1 hf1 hg1 h1 hq1 => ?_))
  · refine wp_step rfl rfl ?_
    refine wp_step rfl rfl ?_
    refine wp_getg (v := (.int 0)) rfl h1.1 (by decide) (congrArg Value.int h1.2.2.2.2.2.1) ?_
    refine wp_if_f rfl rfl ?_
    refine wp_step rfl rfl ?_
    refine wp_c0 rfl rfl (by decide) rfl (recv_ok h1.1 rfl) rfl (q_msmall hb h1 (fun pools q2 T2 J2 e2 hf2 hg2 h2 => ?_) (fun T2 J2 e2 hf2 hg2 h2 hq2 => ?_))
    · have hcl2 := cnt_lt e2
      have hg12 := gf_trans hg1 hg2
      have hf12 : fr [408, 425, 426, 427] S T2 := (fr_trans (fr_mono hf1 (fun j hj => by simp only [List.mem_cons, List.not_mem_nil, or_false] at hj ⊢; omega)) (fr_mono hf2 (fun j hj => by simp only [List.mem_cons, List.not_mem_nil, or_false] at hj ⊢; omega)))
      iterate 4 refine wp_step rfl rfl ?_
      show wp X (d + 8) 121 26 [some (.ref 408), some (.int (nI ks.length)), some (.int (nI ks.length)), some (.int (nI pools)), some (.int (nI 0)), none, none, none, none, none] [] T2 Q
      refine co_loop hb hwf hfh hnc hT hsl hcl2.1 pools 0 q2 n ks T2 J2 K none none none none (by omega) h40 h2 (mSk_fr (mSk_fr hK hf1 (fun j hj => by simp only [List.mem_cons, List.not_mem_nil, or_false] at hj; omega)) hf2 (fun j hj => by simp only [List.mem_cons, List.not_mem_nil, or_false] at hj; omega)) (mV_gf hV hg12 (by decide) (by decide)) ((hg12 20 (by decide)).trans h20) (mTa_fr hM hf12 (fun j hj => by simp only [List.mem_cons, List.not_mem_nil, or_false] at hj; omega)) (fun p3 n3 ks3 T3 J3 K3 e3 hf3 hg3 h3 hK3 hV3 h403 => hret dl p3 n3 ks3 T3 J3 K3 (by unfold rdCp; rw [e1]; dsimp only; rw [e2]; dsimp only; rw [e3]) (fr_trans hf12 hf3) (gf_trans (gf_mono hg12 (fun j hj => by simp only [List.mem_cons, List.not_mem_nil, or_false] at hj ⊢; omega)) hg3) h3 hK3 hV3 h403) (fun k pl zz T3 J3 K3 e3 hf3 hg3 h3 hK3 => hbad k pl zz T3 J3 K3 (by unfold rdCp; rw [e1]; dsimp only; rw [e2]; dsimp only; rw [e3]) (fr_trans hf12 hf3) (gf_trans (gf_mono hg12 (fun j hj => by simp only [List.mem_cons, List.not_mem_nil, or_false] at hj ⊢; omega)) hg3) h3 hK3)
    · iterate 4 refine wp_step rfl rfl ?_
      show wp X (d + 8) 121 26 [some (.ref 408), some (.int (nI ks.length)), some (.int (nI ks.length)), some (.int 0), some (.int 0), none, none, none, none, none] [] T2 Q
      exact cx_26 h2 (fun z => hbad 2 q z T2 J2 K (by unfold rdCp; rw [e1]; dsimp only; rw [e2]) (fr_trans (fr_mono hf1 (fun j hj => by simp only [List.mem_cons, List.not_mem_nil, or_false] at hj ⊢; omega)) (fr_mono hf2 (fun j hj => by simp only [List.mem_cons, List.not_mem_nil, or_false] at hj ⊢; omega))) (gf_trans (gf_mono hg1 (fun j hj => by simp only [List.mem_cons, List.not_mem_nil, or_false] at hj ⊢; omega)) (gf_mono hg2 (fun j hj => by simp only [List.mem_cons, List.not_mem_nil, or_false] at hj ⊢; omega))) h2 (mSk_fr (mSk_fr hK hf1 (fun j hj => by simp only [List.mem_cons, List.not_mem_nil, or_false] at hj; omega)) hf2 (fun j hj => by simp only [List.mem_cons, List.not_mem_nil, or_false] at hj; omega)))
  · refine wp_step rfl rfl ?_
    refine wp_step rfl rfl ?_
    refine wp_getg (v := (.int 2)) rfl h1.1 (by decide) (congrArg Value.int h1.2.1) ?_
    refine wp_if_t rfl rfl ?_
    iterate 4 refine wp_step rfl rfl ?_
    show wp X (d + 8) 121 26 [some (.ref 408), some (.int (nI ks.length)), some (.int (nI ks.length)), some (.int 0), some (.int 0), none, none, none, none, none] [] T Q
    exact cx_26 h1 (fun z => hbad 2 p z T J K (by unfold rdCp; rw [e1]) (fr_mono hf1 (fun j hj => by simp only [List.mem_cons, List.not_mem_nil, or_false] at hj ⊢; omega)) (gf_mono hg1 (fun j hj => by simp only [List.mem_cons, List.not_mem_nil, or_false] at hj ⊢; omega)) h1 (mSk_fr hK hf1 (fun j hj => by simp only [List.mem_cons, List.not_mem_nil, or_false] at hj; omega)))
end MCP
