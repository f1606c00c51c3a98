/-! THE MODEL: a field and a type are told -/
/-- all but type s is the same -/
def mag (M M' : jMT) (s : Nat) : Prop := M'.1 = M.1 ∧ (∀ j, j ≠ s → M'.2.1 j = M.2.1 j ∧ M'.2.2.1 j = M.2.2.1 j ∧ M'.2.2.2.1 j = M.2.2.2.1 j ∧ M'.2.2.2.2.1 j = M.2.2.2.2.1 j) ∧ ∀ j, (j < 8 * s ∨ 8 * s + 8 ≤ j) → M'.2.2.2.2.2.1 j = M.2.2.2.2.2.1 j ∧ M'.2.2.2.2.2.2.1 j = M.2.2.2.2.2.2.1 j ∧ M'.2.2.2.2.2.2.2 j = M.2.2.2.2.2.2.2 j
theorem mag_refl (M : jMT) (s : Nat) : mag M M s := ⟨rfl, fun _ _ => ⟨rfl, rfl, rfl, rfl⟩, fun _ _ => ⟨rfl, rfl, rfl⟩⟩
theorem mag_trans {M N P : jMT} {s : Nat} (h : mag M N s) (h2 : mag N P s) : mag M P s := by
  refine ⟨h2.1.trans h.1, fun j hj => ?_, fun j hj => ?_⟩
  · obtain ⟨a1, a2, a3, a4⟩ := h.2.1 j hj
    obtain ⟨b1, b2, b3, b4⟩ := h2.2.1 j hj
    exact ⟨b1.trans a1, b2.trans a2, b3.trans a3, b4.trans a4⟩
  · obtain ⟨a1, a2, a3⟩ := h.2.2 j hj
    obtain ⟨b1, b2, b3⟩ := h2.2.2 j hj
    exact ⟨b1.trans a1, b2.trans a2, b3.trans a3⟩
theorem mT1_mag {M M' : jMT} {s j : Nat} {x : jTy} (h : mT1 M j x) (ha : mag M M' s) (hj : j ≠ s) (hl : x.2.2.2.length ≤ 8) : mT1 M' j x := by
  obtain ⟨h1, h2, h3, h4, h5⟩ := h
  obtain ⟨a1, a2, a3, a4⟩ := ha.2.1 j hj
  refine ⟨a1.trans h1, a2.trans h2, a3.trans h3, a4.trans h4, fun f y hy => ?_⟩
  have hf := (List.getElem?_eq_some_iff.mp hy).1
  obtain ⟨b1, b2, b3⟩ := ha.2.2 (8 * j + f) (by omega)
  obtain ⟨c1, c2, c3⟩ := h5 f y hy
  exact ⟨b1.trans c1, b2.trans c2, b3.trans c3⟩
section MTELL
variable {X : Nat × (Nat → Int32)} {d : Nat} {Q : am_R → Prop} {st li : Int64} {b : Nat → Nat} {w lim : Nat}
theorem ft_103 {s : Nat} {T : am_S} {J : Nat → Int32} {k : Int32} {pl : Nat} {x2 x3 x4 x6 x7 : Option Value} (hx : mX T J st li k pl) (hq : Q (.inl none, T)) : wp X d 118 103 [some (.ref 408), some (.int (nI s)), x2, x3, x4, none, x6, x7] [] T Q := by
  refine wp_step rfl rfl ?_
  refine wp_getg (v := (.int k)) rfl hx.1 (by decide) (congrArg Value.int hx.2.1) ?_
  refine wp_if_f rfl (c1_eq0 hx.2.2.1) ?_
  refine wp_vret rfl rfl hq
theorem ft_84 {s : Nat} {T : am_S} {J : Nat → Int32} {k : Int32} {pl : Nat} {x2 x3 x4 x6 x7 : Option Value} (hx : mX T J st li k pl) (hq : Q (.inl none, T)) : wp X d 118 84 [some (.ref 408), some (.int (nI s)), x2, x3, x4, none, x6, x7] [] T Q := by
  refine wp_step rfl rfl ?_
  refine wp_getg (v := (.int k)) rfl hx.1 (by decide) (congrArg Value.int hx.2.1) ?_
  refine wp_if_t rfl (c1_ne0 hx.2.2.1) ?_
  exact ft_103 hx hq
theorem ft_62 {s : Nat} {T : am_S} {J : Nat → Int32} {k : Int32} {pl : Nat} {x2 x3 x4 x6 x7 : Option Value} (hx : mX T J st li k pl) (h21 : ∃ q, J 21 = nI q) (hq : Q (.inl none, T)) : wp X d 118 62 [some (.ref 408), some (.int (nI s)), x2, x3, x4, none, x6, x7] [] T Q := by
  obtain ⟨q, hq1⟩ := h21
  refine wp_step rfl rfl ?_
  refine wp_getg (v := (.int (nI q))) rfl hx.1 (by decide) (congrArg Value.int hq1) ?_
  iterate 2 refine wp_step rfl rfl ?_
  refine wp_getg (v := (.int k)) rfl hx.1 (by decide) (congrArg Value.int hx.2.1) ?_
  refine wp_if_t rfl (c1_ne0 hx.2.2.1) ?_
  iterate 2 refine wp_step rfl rfl ?_
  exact ft_84 hx hq
theorem ft_44 {s : Nat} {T : am_S} {J : Nat → Int32} {k : Int32} {pl : Nat} {x2 x6 x7 : Option Value} {z3 : Int32} (hx : mX T J st li k pl) (h21 : ∃ q, J 21 = nI q) (hq : Q (.inl none, T)) : wp X d 118 44 [some (.ref 408), some (.int (nI s)), x2, some (.int z3), none, none, x6, x7] [] T Q := by
  refine wp_step rfl rfl ?_
  refine wp_getg (v := (.int k)) rfl hx.1 (by decide) (congrArg Value.int hx.2.1) ?_
  refine wp_if_t rfl (c1_ne0 hx.2.2.1) ?_
  iterate 2 refine wp_step rfl rfl ?_
  show wp X d 118 62 [some (.ref 408), some (.int (nI s)), x2, some (.int z3), some (.long 0), none, x6, x7] [] T Q
  exact ft_62 hx h21 hq
set_option maxHeartbeats 2000000 in
theorem q_mfieldTold {S : am_S} {I : Nat → Int32} {p s : Nat} {M : jMT} {fs : List jFd} (hb : ∀ j, b j < 256) (h : mR S I st li b w p lim) (hM : mTa S M) (hF : mFs M s fs) (hs : s < 80) (hl : fs.length < 8) (hfb : ∀ (i : Nat) (y : jFd), fs[i]? = some y → y.1 < 2 ^ 31)
    (hret : ∀ y p' T J M', rdF1 b lim fs p = .inr (y, p') → fr [408, 421, 422, 423, 424] S T → gf [21] I J → mR T J st li b w p' lim → mTa T M' → mFs M' s (fs ++ [y]) → mag M M' s → Q (.inl none, T))
    (hbad : ∀ k pl T J, rdF1 b lim fs p = .inl (k, pl) → fr [408] S T → gf [21, 25, 26] I J → mX T J st li k pl → (∃ q, J 21 = nI q) → Q (.inl none, T)) : ev X (d + 4) 118 [.ref 408, .int (nI s)] S Q := by
  refine ev_wp (L0 := [some (.ref 408), some (.int (nI s)), none, none, none, none, none, none]) (Nat.le_of_ble_eq_true rfl) rfl ?_
  have hbp := hb p
  have hk9 := h.2.2.2.2.2.2
  refine wp_step rfl rfl ?_
  refine wp_getg (v := (.int (nI p))) rfl h.1 (by decide) (congrArg Value.int h.2.2.2.1) ?_
  iterate 2 refine wp_step rfl rfl ?_
  refine wp_c0 rfl rfl (by decide) rfl (recv_ok h.1 rfl) rfl (q_mnext hb h (fun T J hlt hf1 hg1 h1 => ?_) (fun T J hle hf1 hg1 h1 hq1 => ?_))
  · have hn1 : ¬ lim ≤ p := by omega
    have hM1 := mTa_fr hM hf1 (fun j hj => by simp only [List.mem_cons, List.not_mem_nil, or_false] at hj; omega)
    refine wp_step rfl rfl ?_
    show wp X (d + 3) 118 10 [some (.ref 408), some (.int (nI s)), some (.int (nI p)), some (.int (nI (b p))), none, none, none, none] [] T Q
    have bad : (b p < 97 ∨ 122 < b p ∨ fdx fs (b p) ≠ none) → wp X (d + 3) 118 38 [some (.ref 408), some (.int (nI s)), some (.int (nI p)), some (.int (nI (b p))), none, none, none, none] [] T Q := by
      intro hbd
      iterate 3 refine wp_step rfl rfl ?_
      refine wp_c0 rfl rfl (by decide) rfl (recv_ok h1.1 rfl) rfl (q_mwrong h1.1 h1.2.2.2.2.2.1 (fun T2 hf2 h2 => ?_))
      have hat : ∃ q, (upd (upd J 26 (nI p)) 25 (Int32.ofInt 4)) 21 = nI q := ⟨p + 1, (pk_un (by decide)).trans ((pk_un (by decide)).trans h1.2.2.2.1)⟩
      exact ft_44 ⟨h2, pk_us, by decide, (pk_un (by decide)).trans pk_us⟩ hat (hbad 4 p T2 _ (by unfold rdF1; rw [if_neg hn1, if_pos hbd]) (fr_trans hf1 hf2) (gf_up (gf_up (gf_mono hg1 (fun j hj => by simp only [List.mem_cons, List.not_mem_nil, or_false] at hj ⊢; omega)) (by simp)) (by simp)) ⟨h2, pk_us, by decide, (pk_un (by decide)).trans pk_us⟩ hat)
    refine wp_step rfl rfl ?_
    refine wp_getg (v := (.int 0)) rfl h1.1 (by decide) (congrArg Value.int h1.2.2.2.2.2.1) ?_
    refine wp_if_f rfl rfl ?_
    iterate 2 refine wp_step rfl rfl ?_
    refine wp_icmp rfl (fun c0 => ?_) (fun c0 => ?_)
    · replace c0 := n_lt_t (a := b p) (b := 97) (by omega) (by omega) c0
      exact bad (Or.inl c0)
    · replace c0 := n_lt_f (a := b p) (b := 97) (by omega) (by omega) c0
      iterate 2 refine wp_step rfl rfl ?_
      refine wp_icmp rfl (fun c1 => ?_) (fun c1 => ?_)
      · replace c1 := n_gt_t (a := b p) (b := 122) (by omega) (by omega) c1
        exact bad (Or.inr (Or.inl c1))
      · replace c1 := n_gt_f (a := b p) (b := 122) (by omega) (by omega) c1
        iterate 3 refine wp_step rfl rfl ?_
        refine wp_c0 rfl rfl (by decide) rfl (recv_ok h1.1 rfl) rfl (q_mfieldOf h1.1 hM1 hF hs (by omega) (by omega) hfb ?_)
        cases ef : fdx fs (b p) with
        | some i0 =>
          have hfi := fsti_some ef
          unfold oI
          dsimp only
          refine wp_if rfl (fun c2 => ?_) (fun c2 => ?_)
          · replace c2 := z_lt_t (a := i0) (by omega) c2
            exact c2.elim
          · replace c2 := z_lt_f (a := i0) (by omega) c2
            exact bad (Or.inr (Or.inr (by rw [ef]; simp)))
        | none =>
          refine wp_if_t rfl rfl ?_
          have hok : ¬ (b p < 97 ∨ 122 < b p ∨ fdx fs (b p) ≠ none) := by rw [ef]; simp; omega
          refine wp_step rfl rfl ?_
          refine wp_getg (v := (.int 0)) rfl h1.1 (by decide) (congrArg Value.int h1.2.2.2.2.2.1) ?_
          refine wp_if_f rfl rfl ?_
          refine wp_step rfl rfl ?_
          refine wp_c0 rfl rfl (by decide) rfl (recv_ok h1.1 rfl) rfl (q_msmall hb h1 (fun ty q T2 J2 e2 hf2 hg2 h2 => ?_) (fun T2 J2 e2 hf2 hg2 h2 hq2 => ?_))
          · have hcl := cnt_lt e2
            have hbq := hb q
            have hg12 := gf_trans hg1 hg2
            have hf12 := fr_trans hf1 hf2
            have hM2 := mTa_fr hM1 hf2 (fun j hj => by simp only [List.mem_cons, List.not_mem_nil, or_false] at hj; omega)
            iterate 2 refine wp_step rfl rfl ?_
            rw [nI_l hcl.1]
            refine wp_step rfl rfl ?_
            show wp X (d + 3) 118 62 [some (.ref 408), some (.int (nI s)), some (.int (nI p)), some (.int (nI (b p))), some (.long (lN ty)), none, none, none] [] T2 Q
            refine wp_step rfl rfl ?_
            refine wp_getg (v := (.int (nI q))) rfl h2.1 (by decide) (congrArg Value.int h2.2.2.2.1) ?_
            iterate 2 refine wp_step rfl rfl ?_
            refine wp_getg (v := (.int 0)) rfl h2.1 (by decide) (congrArg Value.int h2.2.2.2.2.2.1) ?_
            refine wp_if_f rfl rfl ?_
            refine wp_step rfl rfl ?_
            refine wp_c0 rfl rfl (by decide) rfl (recv_ok h2.1 rfl) rfl (q_mnext hb h2 (fun T3 J3 hlt3 hf3 hg3 h3 => ?_) (fun T3 J3 hle3 hf3 hg3 h3 hq3 => ?_))
            · have hM3 := mTa_fr hM2 hf3 (fun j hj => by simp only [List.mem_cons, List.not_mem_nil, or_false] at hj; omega)
              have hg13 := gf_trans hg12 hg3
              have hf13 := fr_trans hf12 hf3
              iterate 2 refine wp_step rfl rfl ?_
              show wp X (d + 3) 118 84 [some (.ref 408), some (.int (nI s)), some (.int (nI q)), some (.int (nI (b p))), some (.long (lN ty)), none, some (.int (nI (b q))), none] [] T3 Q
              refine wp_step rfl rfl ?_
              refine wp_getg (v := (.int 0)) rfl h3.1 (by decide) (congrArg Value.int h3.2.2.2.2.2.1) ?_
              refine wp_if_f rfl rfl ?_
              iterate 2 refine wp_step rfl rfl ?_
              refine wp_icmp rfl (fun c3 => ?_) (fun c3 => ?_)
              · replace c3 := n_le_t (a := b q) (b := 3) (by omega) (by omega) c3
                refine wp_step rfl rfl ?_
                refine wp_getg (v := (.int 0)) rfl h3.1 (by decide) (congrArg Value.int h3.2.2.2.2.2.1) ?_
                refine wp_if_t rfl rfl ?_
                iterate 3 refine wp_step rfl rfl ?_
                rw [show (Int8.ofInt 8).toInt32 * nI s = nI (8 * s) from pk_mul 8 s]
                refine wp_step rfl rfl ?_
                refine wp_getg rfl h3.1 (by decide) rfl ?_
                refine wp_step rfl rfl ?_
                refine wp_ald rfl (Or.inl ⟨rfl, rfl⟩) (by decide) hM3.2.2.2.2.1 (am_in_nI (by omega) (by decide)) ?_
                rw [nI_clamp (by omega)]
                rw [hF.1]
                refine wp_step rfl rfl ?_
                rw [nI_add]
                refine wp_step rfl rfl ?_
                show wp X (d + 3) 118 124 [some (.ref 408), some (.int (nI s)), some (.int (nI q)), some (.int (nI (b p))), some (.long (lN ty)), none, some (.int (nI (b q))), some (.int (nI (8 * s + fs.length)))] [] T3 Q
                refine wp_step rfl rfl ?_
                refine wp_getg rfl h3.1 (by decide) rfl ?_
                iterate 2 refine wp_step rfl rfl ?_
                refine wp_ast rfl (Or.inl ⟨rfl, rfl⟩) hM3.2.2.2.2.2.1 (am_in_nI (by omega) (by decide)) ?_
                rw [nI_clamp (by omega)]
                rw [show vp_nar (am_ty 0) (nI (b p)) = nI (b p) from rfl]
                show wp X (d + 3) 118 132 _ [] (am_upd T3 422 (iA 640 (upd M.2.2.2.2.2.1 (8 * s + fs.length) (nI (b p))))) Q
                have r1 := mR_fr h3 (fr_up (js := [422]) (S := T3) (a := 422) (x := iA 640 (upd M.2.2.2.2.2.1 (8 * s + fs.length) (nI (b p)))) (by simp)) (by decide) (by decide)
                have m1 := mTa_422 hM3 (upd M.2.2.2.2.2.1 (8 * s + fs.length) (nI (b p)))
                have hf_A1 : fr [422] T3 (am_upd T3 422 (iA 640 (upd M.2.2.2.2.2.1 (8 * s + fs.length) (nI (b p))))) := fr_up (by simp)
                generalize am_upd T3 422 (iA 640 (upd M.2.2.2.2.2.1 (8 * s + fs.length) (nI (b p)))) = A1 at r1 m1 hf_A1 ⊢
                refine wp_step rfl rfl ?_
                refine wp_getg rfl r1.1 (by decide) rfl ?_
                iterate 2 refine wp_step rfl rfl ?_
                refine wp_last rfl m1.2.2.2.2.2.2.1 (am_in_nI (by omega) (by decide)) ?_
                rw [nI_clamp (by omega)]
                show wp X (d + 3) 118 141 _ [] (am_upd A1 423 (lA 640 (vp_updL M.2.2.2.2.2.2.1 (8 * s + fs.length) (lN ty)))) Q
                have r2 := mR_fr r1 (fr_up (js := [423]) (S := A1) (a := 423) (x := lA 640 (vp_updL M.2.2.2.2.2.2.1 (8 * s + fs.length) (lN ty))) (by simp)) (by decide) (by decide)
                have m2 := mTa_423 m1 (vp_updL M.2.2.2.2.2.2.1 (8 * s + fs.length) (lN ty))
                have hf_A2 : fr [423] A1 (am_upd A1 423 (lA 640 (vp_updL M.2.2.2.2.2.2.1 (8 * s + fs.length) (lN ty)))) := fr_up (by simp)
                generalize am_upd A1 423 (lA 640 (vp_updL M.2.2.2.2.2.2.1 (8 * s + fs.length) (lN ty))) = A2 at r2 m2 hf_A2 ⊢
                refine wp_step rfl rfl ?_
                refine wp_getg rfl r2.1 (by decide) rfl ?_
                iterate 2 refine wp_step rfl rfl ?_
                refine wp_ast rfl (Or.inl ⟨rfl, rfl⟩) m2.2.2.2.2.2.2.2 (am_in_nI (by omega) (by decide)) ?_
                rw [nI_clamp (by omega)]
                rw [show vp_nar (am_ty 0) (nI (b q)) = nI (b q) from rfl]
                show wp X (d + 3) 118 150 _ [] (am_upd A2 424 (iA 640 (upd M.2.2.2.2.2.2.2 (8 * s + fs.length) (nI (b q))))) Q
                have r3 := mR_fr r2 (fr_up (js := [424]) (S := A2) (a := 424) (x := iA 640 (upd M.2.2.2.2.2.2.2 (8 * s + fs.length) (nI (b q)))) (by simp)) (by decide) (by decide)
                have m3 := mTa_424 m2 (upd M.2.2.2.2.2.2.2 (8 * s + fs.length) (nI (b q)))
                have hf_A3 : fr [424] A2 (am_upd A2 424 (iA 640 (upd M.2.2.2.2.2.2.2 (8 * s + fs.length) (nI (b q))))) := fr_up (by simp)
                generalize am_upd A2 424 (iA 640 (upd M.2.2.2.2.2.2.2 (8 * s + fs.length) (nI (b q)))) = A3 at r3 m3 hf_A3 ⊢
                refine wp_step rfl rfl ?_
                refine wp_getg rfl r3.1 (by decide) rfl ?_
                iterate 2 refine wp_step rfl rfl ?_
                refine wp_ald rfl (Or.inl ⟨rfl, rfl⟩) (by decide) m3.2.2.2.2.1 (am_in_nI (by omega) (by decide)) ?_
                rw [nI_clamp (by omega)]
                rw [show M.2.2.2.2.1 s = nI fs.length from hF.1]
                iterate 2 refine wp_step rfl rfl ?_
                rw [show nI fs.length + Int32.ofInt 1 = nI (fs.length + 1) from nI_add fs.length 1]
                refine wp_ast rfl (Or.inl ⟨rfl, rfl⟩) m3.2.2.2.2.1 (am_in_nI (by omega) (by decide)) ?_
                rw [nI_clamp (by omega)]
                rw [show vp_nar (am_ty 0) (nI (fs.length + 1)) = nI (fs.length + 1) from rfl]
                show wp X (d + 3) 118 160 _ [] (am_upd A3 421 (iA 80 (upd M.2.2.2.2.1 s (nI (fs.length + 1))))) Q
                have r4 := mR_fr r3 (fr_up (js := [421]) (S := A3) (a := 421) (x := iA 80 (upd M.2.2.2.2.1 s (nI (fs.length + 1)))) (by simp)) (by decide) (by decide)
                have m4 := mTa_421 m3 (upd M.2.2.2.2.1 s (nI (fs.length + 1)))
                have hf_A4 : fr [421] A3 (am_upd A3 421 (iA 80 (upd M.2.2.2.2.1 s (nI (fs.length + 1))))) := fr_up (by simp)
                generalize am_upd A3 421 (iA 80 (upd M.2.2.2.2.1 s (nI (fs.length + 1)))) = A4 at r4 m4 hf_A4 ⊢
                refine wp_vret rfl rfl (hret (b p, ty, b q) (q + 1) A4 J3 _ (by unfold rdF1; rw [if_neg hn1, if_neg hok, e2]; dsimp only; rw [if_neg (by omega), if_neg (by omega)]) (fr_trans (fr_mono hf13 (fun j hj => by simp only [List.mem_cons, List.not_mem_nil, or_false] at hj ⊢; omega)) (fr_trans (fr_mono hf_A1 (fun j hj => by simp only [List.mem_cons, List.not_mem_nil, or_false] at hj ⊢; omega)) (fr_trans (fr_mono hf_A2 (fun j hj => by simp only [List.mem_cons, List.not_mem_nil, or_false] at hj ⊢; omega)) (fr_trans (fr_mono hf_A3 (fun j hj => by simp only [List.mem_cons, List.not_mem_nil, or_false] at hj ⊢; omega)) (fr_mono hf_A4 (fun j hj => by simp only [List.mem_cons, List.not_mem_nil, or_false] at hj ⊢; omega)))))) hg13 r4 m4 ?_ ?_)
                · refine ⟨by rw [List.length_append]; exact pk_us, fun f y hy => ?_⟩
                  rcases at_app hy with ⟨g1, g2⟩ | ⟨g1, g2⟩
                  · obtain ⟨b1, b2, b3⟩ := hF.2 f y g2
                    exact ⟨(pk_un (by omega)).trans b1, (pk_uLn (by omega)).trans b2, (pk_un (by omega)).trans b3⟩
                  · subst g1; subst g2; exact ⟨pk_us, pk_uLs, pk_us⟩
                · exact ⟨rfl, fun j hj => ⟨rfl, rfl, rfl, pk_un hj⟩, fun j hj => ⟨pk_un (by omega), pk_uLn (by omega), pk_un (by omega)⟩⟩
              · replace c3 := n_le_f (a := b q) (b := 3) (by omega) (by omega) c3
                iterate 3 refine wp_step rfl rfl ?_
                refine wp_c0 rfl rfl (by decide) rfl (recv_ok h3.1 rfl) rfl (q_mwrong h3.1 h3.2.2.2.2.2.1 (fun T4 hf4 h4 => ?_))
                exact ft_103 ⟨h4, pk_us, by decide, (pk_un (by decide)).trans pk_us⟩ (hbad 4 q T4 _ (by unfold rdF1; rw [if_neg hn1, if_neg hok, e2]; dsimp only; rw [if_neg (by omega), if_pos c3]) (fr_trans hf13 hf4) (gf_up (gf_up (gf_mono hg13 (fun j hj => by simp only [List.mem_cons, List.not_mem_nil, or_false] at hj ⊢; omega)) (by simp)) (by simp)) ⟨h4, pk_us, by decide, (pk_un (by decide)).trans pk_us⟩ ⟨q + 1, (pk_un (by decide)).trans ((pk_un (by decide)).trans h3.2.2.2.1)⟩)
            · iterate 2 refine wp_step rfl rfl ?_
              exact ft_84 h3 (hbad 2 q T3 J3 (by unfold rdF1; rw [if_neg hn1, if_neg hok, e2]; dsimp only; rw [if_pos hle3]) (fr_trans hf12 hf3) (gf_trans (gf_mono hg12 (fun j hj => by simp only [List.mem_cons, List.not_mem_nil, or_false] at hj ⊢; omega)) hg3) h3 hq3)
          · iterate 3 refine wp_step rfl rfl ?_
            exact ft_62 h2 hq2 (hbad 2 (p + 1) T2 J2 (by unfold rdF1; rw [if_neg hn1, if_neg hok, e2]) (fr_trans hf1 hf2) (gf_trans (gf_mono hg1 (fun j hj => by simp only [List.mem_cons, List.not_mem_nil, or_false] at hj ⊢; omega)) hg2) h2 hq2)
  · refine wp_step rfl rfl ?_
    refine wp_step rfl rfl ?_
    refine wp_getg (v := (.int 2)) rfl h1.1 (by decide) (congrArg Value.int h1.2.1) ?_
    refine wp_if_t rfl rfl ?_
    exact ft_44 h1 hq1 (hbad 2 p T J (by unfold rdF1; rw [if_pos hle]) hf1 hg1 h1 hq1)
end MTELL
