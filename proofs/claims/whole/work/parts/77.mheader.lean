/-! THE MODEL: a chunk's header -/
def mSz (S : am_S) (w tot : Nat) : Prop := ∃ sz, am_get S 411 = some (iA 2 sz) ∧ sz w = nI tot
theorem mSz_fr {js : List Nat} {S T : am_S} {w tot : Nat} (h : mSz S w tot) (hf : fr js S T) (hj : 411 ∉ js) : mSz T w tot := by
  obtain ⟨sz, h1, h2⟩ := h
  exact ⟨sz, by rw [fr_get hf hj]; exact h1, h2⟩
section MHEADER
variable {X : Nat × (Nat → Int32)} {d : Nat} {Q : am_R → Prop} {S : am_S} {I : Nat → Int32} {st li : Int64} {b : Nat → Nat} {w tot s : Nat}
theorem mh_x {T : am_S} {J : Nat → Int32} {k : Int32} {pl : Nat} {y : Option Value} (hx : mX T J st li k pl) (hq : Q (.inl none, T)) : wp X d 113 115 [some (.ref 408), some (.int (nI s)), y] [] T Q := by
  refine wp_step rfl rfl ?_
  refine wp_getg (v := (.int k)) rfl hx.1 (by decide) (congrArg Value.int hx.2.1) ?_
  refine wp_if_f rfl (c1_eq0 hx.2.2.1) ?_
  refine wp_vret rfl rfl hq
theorem mh_x2 {T : am_S} {J : Nat → Int32} {k : Int32} {pl i : Nat} (hi : i < 8) (hx : mX T J st li k pl) (hq : Q (.inl none, T)) : wp X d 113 109 [some (.ref 408), some (.int (nI s)), some (.int (nI i))] [] T Q := by
  iterate 2 refine wp_step rfl rfl ?_
  rw [show nI i + Int32.ofInt 1 = nI (i + 1) from nI_add i 1]
  iterate 2 refine wp_step rfl rfl ?_
  refine wp_icmp rfl (fun c0 => ?_) (fun c0 => ?_)
  · replace c0 := n_ge_t (a := i + 1) (b := 8) (by omega) (by omega) c0
    exact mh_x hx hq
  · replace c0 := n_ge_f (a := i + 1) (b := 8) (by omega) (by omega) c0
    refine wp_step rfl rfl ?_
    refine wp_getg (v := (.int k)) rfl hx.1 (by decide) (congrArg Value.int hx.2.1) ?_
    refine wp_if_t rfl (c1_ne0 hx.2.2.1) ?_
    exact mh_x hx hq
set_option maxHeartbeats 1000000 in
theorem mh_loop {sz : Nat → Int32} (hb : ∀ j, b j < 256) (h : am_get S 408 = some (moC I st li)) (hB : mBy S b w) (h19 : I 19 = nI w) (h25 : I 25 = 0) (hw : w ≤ 1) (hz : am_get S 411 = some (iA 2 sz) ∧ sz w = nI tot) (ht : tot ≤ 960) (hs : s ≤ tot) : ∀ (m i : Nat), i + m = 8 → (hdrF b tot s m i = none → wp X (d + 2) 113 115 [some (.ref 408), some (.int (nI s)), some (.int (nI 8))] [] S Q) → (∀ k pl T J, hdrF b tot s m i = some (k, pl) → fr [408] S T → gf [25, 26] I J → mX T J st li k pl → Q (.inl none, T)) → wp X (d + 2) 113 2 [some (.ref 408), some (.int (nI s)), some (.int (nI i))] [] S Q := by
  intro m
  induction m with
  | zero =>
    intro i hi hnone hsome
    have e9 : i = 8 := by omega
    subst e9
    iterate 2 refine wp_step rfl rfl ?_
    refine wp_icmp rfl (fun c0 => ?_) (fun c0 => ?_)
    · replace c0 := n_ge_t (a := 8) (b := 8) (by omega) (by omega) c0
      exact hnone rfl
    · replace c0 := n_ge_f (a := 8) (b := 8) (by omega) (by omega) c0
      omega
  | succ m ih =>
    intro i hi hnone hsome
    iterate 2 refine wp_step rfl rfl ?_
    refine wp_icmp rfl (fun c0 => ?_) (fun c0 => ?_)
    · replace c0 := n_ge_t (a := i) (b := 8) (by omega) (by omega) c0
      omega
    · replace c0 := n_ge_f (a := i) (b := 8) (by omega) (by omega) c0
      refine wp_step rfl rfl ?_
      refine wp_getg (v := (.int 0)) rfl h (by decide) (congrArg Value.int h25) ?_
      refine wp_if_f rfl rfl ?_
      iterate 3 refine wp_step rfl rfl ?_
      rw [nI_add]
      refine wp_step rfl rfl ?_
      refine wp_getg rfl h (by decide) rfl ?_
      refine wp_step rfl rfl ?_
      refine wp_getg (v := (.int (nI w))) rfl h (by decide) (congrArg Value.int h19) ?_
      refine wp_ald rfl (Or.inl ⟨rfl, rfl⟩) (by decide) hz.1 (am_in_nI (by omega) (by decide)) ?_
      rw [nI_clamp (by omega)]
      rw [hz.2]
      refine wp_icmp rfl (fun c1 => ?_) (fun c1 => ?_)
      · replace c1 := n_lt_t (a := s + i) (b := tot) (by omega) (by omega) c1
        iterate 2 refine wp_step rfl rfl ?_
        refine wp_icmp rfl (fun c2 => ?_) (fun c2 => ?_)
        · replace c2 := n_ge_t (a := i) (b := 5) (by omega) (by omega) c2
          iterate 2 refine wp_step rfl rfl ?_
          rw [show nI i + Int32.ofInt 1 = nI (i + 1) from nI_add i 1]
          exact ih (i + 1) (by omega) (fun e => hnone (by unfold hdrF; rw [if_neg (by omega), if_neg (by omega)]; exact e)) (fun k pl T J e => hsome k pl T J (by unfold hdrF; rw [if_neg (by omega), if_neg (by omega)]; exact e))
        · replace c2 := n_ge_f (a := i) (b := 5) (by omega) (by omega) c2
          iterate 4 refine wp_step rfl rfl ?_
          rw [nI_add]
          refine wp_c0 rfl rfl (by decide) rfl (recv_ok h rfl) rfl (q_mget h hB h19 hw (by omega) ?_)
          have hsgb := sg_lt i
          have hbi := hb (s + i)
          have K : wp X (d + 2) 113 98 [some (.ref 408), some (.int (nI s)), some (.int (nI i))] [.int (nI (sg i)), .int (nI (b (s + i)))] S Q := by
            refine wp_icmp rfl (fun c3 => ?_) (fun c3 => ?_)
            · replace c3 := n_eq_t (a := b (s + i)) (b := sg i) (by omega) (by omega) c3
              iterate 2 refine wp_step rfl rfl ?_
              rw [show nI i + Int32.ofInt 1 = nI (i + 1) from nI_add i 1]
              exact ih (i + 1) (by omega) (fun e => hnone (by unfold hdrF; rw [if_neg (by omega), if_neg (fun h9 => h9.2 c3)]; exact e)) (fun k pl T J e => hsome k pl T J (by unfold hdrF; rw [if_neg (by omega), if_neg (fun h9 => h9.2 c3)]; exact e))
            · replace c3 := n_eq_f (a := b (s + i)) (b := sg i) (by omega) (by omega) c3
              iterate 5 refine wp_step rfl rfl ?_
              rw [nI_add]
              refine wp_c0 rfl rfl (by decide) rfl (recv_ok h rfl) rfl (q_mwrong h h25 (fun T hf1 h1 => ?_))
              exact mh_x2 (by omega) ⟨h1, pk_us, by decide, (pk_un (by decide)).trans pk_us⟩ (hsome 1 (s + i) T _ (by unfold hdrF; rw [if_neg (by omega), if_pos ⟨c2, c3⟩]) hf1 (gf_up (gf_up (gf_refl _ _) (by simp)) (by simp)) ⟨h1, pk_us, by decide, (pk_un (by decide)).trans pk_us⟩)
          have hi5 : i = 0 ∨ i = 1 ∨ i = 2 ∨ i = 3 ∨ i = 4 := by omega
          rcases hi5 with rfl | rfl | rfl | rfl | rfl
          · refine wp_step rfl rfl ?_
            refine wp_if_f rfl rfl ?_
            iterate 2 refine wp_step rfl rfl ?_
            exact K
          · refine wp_step rfl rfl ?_
            refine wp_if_t rfl rfl ?_
            iterate 2 refine wp_step rfl rfl ?_
            refine wp_icmp_f rfl rfl ?_
            iterate 2 refine wp_step rfl rfl ?_
            exact K
          · refine wp_step rfl rfl ?_
            refine wp_if_t rfl rfl ?_
            iterate 2 refine wp_step rfl rfl ?_
            refine wp_icmp_t rfl rfl ?_
            iterate 2 refine wp_step rfl rfl ?_
            refine wp_icmp_f rfl rfl ?_
            iterate 2 refine wp_step rfl rfl ?_
            exact K
          · refine wp_step rfl rfl ?_
            refine wp_if_t rfl rfl ?_
            iterate 2 refine wp_step rfl rfl ?_
            refine wp_icmp_t rfl rfl ?_
            iterate 2 refine wp_step rfl rfl ?_
            refine wp_icmp_t rfl rfl ?_
            iterate 2 refine wp_step rfl rfl ?_
            refine wp_icmp_f rfl rfl ?_
            iterate 2 refine wp_step rfl rfl ?_
            exact K
          · refine wp_step rfl rfl ?_
            refine wp_if_t rfl rfl ?_
            iterate 2 refine wp_step rfl rfl ?_
            refine wp_icmp_t rfl rfl ?_
            iterate 2 refine wp_step rfl rfl ?_
            refine wp_icmp_t rfl rfl ?_
            iterate 2 refine wp_step rfl rfl ?_
            refine wp_icmp_t rfl rfl ?_
            refine wp_step rfl rfl ?_
            exact K
      · replace c1 := n_lt_f (a := s + i) (b := tot) (by omega) (by omega) c1
        iterate 3 refine wp_step rfl rfl ?_
        refine wp_getg rfl h (by decide) rfl ?_
        refine wp_step rfl rfl ?_
        refine wp_getg (v := (.int (nI w))) rfl h (by decide) (congrArg Value.int h19) ?_
        refine wp_ald rfl (Or.inl ⟨rfl, rfl⟩) (by decide) hz.1 (am_in_nI (by omega) (by decide)) ?_
        rw [nI_clamp (by omega)]
        rw [hz.2]
        refine wp_c0 rfl rfl (by decide) rfl (recv_ok h rfl) rfl (q_mwrong h h25 (fun T hf1 h1 => ?_))
        refine wp_step rfl rfl ?_
        exact mh_x2 (by omega) ⟨h1, pk_us, by decide, (pk_un (by decide)).trans pk_us⟩ (hsome 2 tot T _ (by unfold hdrF; rw [if_pos c1]) hf1 (gf_up (gf_up (gf_refl _ _) (by simp)) (by simp)) ⟨h1, pk_us, by decide, (pk_un (by decide)).trans pk_us⟩)
set_option maxHeartbeats 1000000 in
theorem q_mheader (hb : ∀ j, b j < 256) (h : am_get S 408 = some (moC I st li)) (hB : mBy S b w) (h19 : I 19 = nI w) (h25 : I 25 = 0) (hw : w ≤ 1) (hz : mSz S w tot) (ht : tot ≤ 960) (hs : s ≤ tot)
    (hret : ∀ z, rdH b tot s = .inr z → Q (.inl none, S)) (hbad : ∀ k pl T J, rdH b tot s = .inl (k, pl) → fr [408] S T → gf [25, 26] I J → mX T J st li k pl → Q (.inl none, T)) : ev X (d + 4) 113 [.ref 408, .int (nI s)] S Q := by
  refine ev_wp (L0 := [some (.ref 408), some (.int (nI s)), none]) (Nat.le_of_ble_eq_true rfl) rfl ?_
  obtain ⟨sz, hz⟩ := hz
  have hw26 : w2 b (s + 6) < 65536 := fxN_lt hb (p := s + 6) 2
  have hw416 : w4 b (s + 16) < 4294967296 := fxN_lt hb (p := s + 16) 4
  iterate 2 refine wp_step rfl rfl ?_
  refine mh_loop (d := d + 1) hb h hB h19 h25 hw hz ht hs 8 0 (by omega) (fun e1 => ?_) (fun k pl T J e1 hf1 hg1 h1 => hbad k pl T J (by unfold rdH; rw [e1]) hf1 hg1 h1)
  have h8 := hdrF_none e1
  refine wp_step rfl rfl ?_
  refine wp_getg (v := (.int 0)) rfl h (by decide) (congrArg Value.int h25) ?_
  refine wp_if_t rfl rfl ?_
  iterate 4 refine wp_step rfl rfl ?_
  rw [show nI s + (Int8.ofInt 6).toInt32 = nI (s + 6) from nI_add s 6]
  refine wp_c0 rfl rfl (by decide) rfl (recv_ok h rfl) rfl (q_mtwo hb h hB h19 hw (by omega) ?_)
  refine wp_step rfl rfl ?_
  refine wp_icmp rfl (fun c0 => ?_) (fun c0 => ?_)
  · replace c0 := n_ge_t (a := w2 b (s + 6)) (b := 20) (by omega) (by omega) c0
    iterate 5 refine wp_step rfl rfl ?_
    rw [show nI s + (Int8.ofInt 6).toInt32 = nI (s + 6) from nI_add s 6]
    refine wp_c0 rfl rfl (by decide) rfl (recv_ok h rfl) rfl (q_mtwo hb h hB h19 hw (by omega) ?_)
    refine wp_step rfl rfl ?_
    rw [nI_add]
    refine wp_step rfl rfl ?_
    refine wp_getg rfl h (by decide) rfl ?_
    refine wp_step rfl rfl ?_
    refine wp_getg (v := (.int (nI w))) rfl h (by decide) (congrArg Value.int h19) ?_
    refine wp_ald rfl (Or.inl ⟨rfl, rfl⟩) (by decide) hz.1 (am_in_nI (by omega) (by decide)) ?_
    rw [nI_clamp (by omega)]
    rw [hz.2]
    refine wp_icmp rfl (fun c1 => ?_) (fun c1 => ?_)
    · replace c1 := n_le_t (a := s + w2 b (s + 6)) (b := tot) (by omega) (by omega) c1
      iterate 4 refine wp_step rfl rfl ?_
      rw [show nI s + (Int8.ofInt 16).toInt32 = nI (s + 16) from nI_add s 16]
      refine wp_c0 rfl rfl (by decide) rfl (recv_ok h rfl) rfl (q_mfour hb h hB h19 hw (by omega) ?_)
      iterate 2 refine wp_step rfl rfl ?_
      refine wp_if rfl (fun c2 => ?_) (fun c2 => ?_)
      · replace c2 := l_ne_t c2
        refine wp_vret rfl rfl (hret (w2 b (s + 6)) (by unfold rdH; rw [e1]; dsimp only; rw [if_neg (by omega), if_neg (by omega), if_neg (fun e9 => c2 (by rw [e9]; rfl))]))
      · replace c2 := l_ne_f c2
        iterate 5 refine wp_step rfl rfl ?_
        rw [show nI s + (Int8.ofInt 16).toInt32 = nI (s + 16) from nI_add s 16]
        refine wp_c0 rfl rfl (by decide) rfl (recv_ok h rfl) rfl (q_mwrong h h25 (fun T hf1 h1 => ?_))
        have hw0 : w4 b (s + 16) = 0 := by
          by_cases g : w4 b (s + 16) = 0
          · exact g
          · have h9 := lN_pos g hw416
            rw [show lN (w4 b (s + 16)) = 0 from c2] at h9
            exact absurd h9 (by decide)
        refine wp_vret rfl rfl (hbad 1 (s + 16) T _ (by unfold rdH; rw [e1]; dsimp only; rw [if_neg (by omega), if_neg (by omega), if_pos hw0]) hf1 (gf_up (gf_up (gf_refl _ _) (by simp)) (by simp)) ⟨h1, pk_us, by decide, (pk_un (by decide)).trans pk_us⟩)
    · replace c1 := n_le_f (a := s + w2 b (s + 6)) (b := tot) (by omega) (by omega) c1
      iterate 5 refine wp_step rfl rfl ?_
      rw [show nI s + (Int8.ofInt 6).toInt32 = nI (s + 6) from nI_add s 6]
      refine wp_c0 rfl rfl (by decide) rfl (recv_ok h rfl) rfl (q_mwrong h h25 (fun T hf1 h1 => ?_))
      refine wp_step rfl rfl ?_
      refine wp_vret rfl rfl (hbad 2 (s + 6) T _ (by unfold rdH; rw [e1]; dsimp only; rw [if_neg (by omega), if_pos (by omega)]) hf1 (gf_up (gf_up (gf_refl _ _) (by simp)) (by simp)) ⟨h1, pk_us, by decide, (pk_un (by decide)).trans pk_us⟩)
  · replace c0 := n_ge_f (a := w2 b (s + 6)) (b := 20) (by omega) (by omega) c0
    iterate 5 refine wp_step rfl rfl ?_
    rw [show nI s + (Int8.ofInt 6).toInt32 = nI (s + 6) from nI_add s 6]
    refine wp_c0 rfl rfl (by decide) rfl (recv_ok h rfl) rfl (q_mwrong h h25 (fun T hf1 h1 => ?_))
    refine wp_step rfl rfl ?_
    refine wp_vret rfl rfl (hbad 1 (s + 6) T _ (by unfold rdH; rw [e1]; dsimp only; rw [if_pos c0]) hf1 (gf_up (gf_up (gf_refl _ _) (by simp)) (by simp)) ⟨h1, pk_us, by decide, (pk_un (by decide)).trans pk_us⟩)
end MHEADER
