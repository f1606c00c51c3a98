/-! THE MODEL: gather, mean, fold -/
theorem insP_s {w : Int64} {zs : List Int64} {k : Nat} (h : w < zs.getD k 0) : insP w zs (k + 1) = insP w zs k := by
  conv => lhs; unfold insP
  rw [if_pos h]
section MFOLD
variable {X : Nat × (Nat → Int32)} {d : Nat} {Q : am_R → Prop} {b : Nat → Nat} {v tot : Nat} {re : jRe} {M : jMT} {E : jME} {C : jMC}
theorem ga_81 {S : am_S} {I : Nat → Int32} {st li : Int64} {g : Nat → Int64} {zs : List Int64} {w : Int64} {path : Int32} {i k : Nat} (h : am_get S 408 = some (moC I st li)) (h47 : I 47 = nI zs.length) (hg : am_get S 433 = some (lA 60 g)) (hl : zs.length < 60) (hkl : k ≤ zs.length) (hk : k = insP w zs zs.length) (a1 : ∀ i, i < k → g i = zs.getD i 0) (a2 : ∀ i, k < i → i ≤ zs.length → g i = zs.getD (i - 1) 0) (hq : (∀ T J g' (z5 : Int32), fr [408, 433] S T → gf [47] I J → am_get T 408 = some (moC J st li) → J 47 = nI (zs.length + 1) → am_get T 433 = some (lA 60 g') → tD g' (ins w zs) → wp X d 155 99 [some (.ref 408), some (.int path), some (.int (nI i)), some (.long w), none, some (.int z5)] [] T Q)) : wp X d 155 81 [some (.ref 408), some (.int path), some (.int (nI i)), some (.long w), none, some (.int (nI k))] [] S Q := by
  refine wp_step rfl rfl ?_
  refine wp_getg rfl h (by decide) rfl ?_
  iterate 2 refine wp_step rfl rfl ?_
  refine wp_last rfl hg (am_in_nI (by omega) (by decide)) ?_
  rw [nI_clamp (by omega)]
  have h1 : am_get (am_upd S 433 (lA 60 (vp_updL g k w))) 408 = some (moC I st li) := (am_get_ne (by decide)).trans h
  have g1 : am_get (am_upd S 433 (lA 60 (vp_updL g k w))) 433 = some (lA 60 (vp_updL g k w)) := am_get_self hg
  have hf1 : fr [408, 433] S (am_upd S 433 (lA 60 (vp_updL g k w))) := fr_up (by simp)
  generalize am_upd S 433 (lA 60 (vp_updL g k w)) = S1 at h1 g1 hf1 ⊢
  iterate 2 refine wp_step rfl rfl ?_
  refine wp_getg (v := (.int (nI zs.length))) rfl h1 (by decide) (congrArg Value.int h47) ?_
  iterate 2 refine wp_step rfl rfl ?_
  rw [show nI zs.length + Int32.ofInt 1 = nI (zs.length + 1) from nI_add zs.length 1]
  refine wp_putg rfl h1 (by decide) rfl rfl ?_
  rw [mkG_i rfl]
  have h_Sx1 : am_get (am_upd S1 408 (moC (upd I 47 (nI (zs.length + 1))) st li)) 408 = some (moC (upd I 47 (nI (zs.length + 1))) st li) := am_get_self h1
  have hf_Sx1 : fr [408] S1 (am_upd S1 408 (moC (upd I 47 (nI (zs.length + 1))) st li)) := fr_up (by simp)
  generalize am_upd S1 408 (moC (upd I 47 (nI (zs.length + 1))) st li) = Sx1 at h_Sx1 hf_Sx1 ⊢
  have hg_J : gf [47] I (upd I 47 (nI (zs.length + 1))) := gf_up (gf_refl _ _) (by simp)
  have J_47 : (upd I 47 (nI (zs.length + 1))) 47 = nI (zs.length + 1) := pk_us
  have a_J := h_Sx1
  have hf_J := hf_Sx1
  clear h_Sx1 hf_Sx1
  generalize upd I 47 (nI (zs.length + 1)) = J at a_J hg_J J_47
  exact hq Sx1 J (vp_updL g k w) _ (fr_trans hf1 (fr_mono hf_J (fun j hj => by simp only [List.mem_cons, List.not_mem_nil, or_false] at hj ⊢; omega))) hg_J a_J J_47 (by rw [fr_get hf_J (by decide)]; exact g1) (ins_at hk a1 a2)
theorem ga_in {I : Nat → Int32} {st li : Int64} {zs : List Int64} {w : Int64} {path : Int32} {i : Nat} (h47 : I 47 = nI zs.length) (hl : zs.length < 60) : ∀ (k : Nat) (g : Nat → Int64) (S : am_S), k ≤ zs.length → insP w zs zs.length = insP w zs k → (∀ j, j < k → g j = zs.getD j 0) → (∀ j, k < j → j ≤ zs.length → g j = zs.getD (j - 1) 0) → am_get S 408 = some (moC I st li) → am_get S 433 = some (lA 60 g) → (∀ T J g' (z5 : Int32), fr [408, 433] S T → gf [47] I J → am_get T 408 = some (moC J st li) → J 47 = nI (zs.length + 1) → am_get T 433 = some (lA 60 g') → tD g' (ins w zs) → wp X d 155 99 [some (.ref 408), some (.int path), some (.int (nI i)), some (.long w), none, some (.int z5)] [] T Q) → wp X d 155 40 [some (.ref 408), some (.int path), some (.int (nI i)), some (.long w), none, some (.int (nI k))] [] S Q := by
  intro k
  induction k with
  | zero =>
    intro g S hkl hk a1 a2 h hg hq
    refine wp_step rfl rfl ?_
    refine wp_if rfl (fun c0 => ?_) (fun c0 => ?_)
    · replace c0 := z_le_t (a := 0) (by omega) c0
      exact ga_81 h h47 hg hl (Nat.zero_le _) (by rw [hk]; rfl) a1 a2 hq
    · replace c0 := z_le_f (a := 0) (by omega) c0
      omega
  | succ k ih =>
    intro g S hkl hk a1 a2 h hg hq
    refine wp_step rfl rfl ?_
    refine wp_if rfl (fun c0 => ?_) (fun c0 => ?_)
    · replace c0 := z_le_t (a := k + 1) (by omega) c0
      omega
    · replace c0 := z_le_f (a := k + 1) (by omega) c0
      refine wp_step rfl rfl ?_
      refine wp_getg rfl h (by decide) rfl ?_
      iterate 3 refine wp_step rfl rfl ?_
      rw [show nI (k + 1) - Int32.ofInt 1 = nI k from nI_pred k]
      refine wp_lald rfl (by decide) hg (am_in_nI (by omega) (by decide)) ?_
      rw [nI_clamp (by omega)]
      rw [a1 k (by omega)]
      iterate 2 refine wp_step rfl rfl ?_
      refine wp_if rfl (fun c1 => ?_) (fun c1 => ?_)
      · replace c1 := l_le_t c1
        exact ga_81 h h47 hg hl hkl (by rw [hk]; unfold insP; rw [if_neg (Int64.not_lt.mpr c1)]) a1 a2 hq
      · replace c1 := l_le_f c1
        refine wp_step rfl rfl ?_
        refine wp_getg rfl h (by decide) rfl ?_
        iterate 2 refine wp_step rfl rfl ?_
        refine wp_getg rfl h (by decide) rfl ?_
        iterate 3 refine wp_step rfl rfl ?_
        rw [show nI (k + 1) - Int32.ofInt 1 = nI k from nI_pred k]
        refine wp_lald rfl (by decide) hg (am_in_nI (by omega) (by decide)) ?_
        rw [nI_clamp (by omega)]
        rw [a1 k (by omega)]
        refine wp_last rfl hg (am_in_nI (by omega) (by decide)) ?_
        rw [nI_clamp (by omega)]
        have h1 : am_get (am_upd S 433 (lA 60 (vp_updL g (k + 1) (zs.getD k 0)))) 408 = some (moC I st li) := (am_get_ne (by decide)).trans h
        have g1 : am_get (am_upd S 433 (lA 60 (vp_updL g (k + 1) (zs.getD k 0)))) 433 = some (lA 60 (vp_updL g (k + 1) (zs.getD k 0))) := am_get_self hg
        have hf1 : fr [408, 433] S (am_upd S 433 (lA 60 (vp_updL g (k + 1) (zs.getD k 0)))) := fr_up (by simp)
        generalize am_upd S 433 (lA 60 (vp_updL g (k + 1) (zs.getD k 0))) = S1 at h1 g1 hf1 ⊢
        iterate 2 refine wp_step rfl rfl ?_
        rw [nI_m1]
        exact ih (vp_updL g (k + 1) (zs.getD k 0)) S1 (by omega) (hk.trans (insP_s (Int64.not_le.mp c1))) (fun j hj => by rw [pk_uLn (by omega)]; exact a1 j (by omega)) (fun j hj hj2 => by
          by_cases e9 : j = k + 1
          · subst e9; rw [pk_uLs]; rfl
          · rw [pk_uLn e9]; exact a2 j (by omega) hj2) h1 g1 (fun T J g' z5 b1 b2 b3 b4 b5 b6 => hq T J g' z5 (fr_trans hf1 b1) b2 b3 b4 b5 b6)
set_option maxHeartbeats 1000000 in
theorem ga_loop {xs : List Nat} {ch : Nat → Int32} {path : Int32} (hb : ∀ j, b j < 256) (hR : reQ b tot re) (hP : evP b tot re) (hE : evR b tot re) (hx60 : xs.length ≤ 60) (hxs : chD ch xs) (hxe : ∀ e, e ∈ xs → e < re.2.1.length) : ∀ (m i : Nat) (zs : List Int64) (g : Nat → Int64) (S : am_S) (I : Nat → Int32) (st li : Int64) (K : jMK) (x3 x4 x5 : Option Value), i + m = xs.length → zs.length ≤ i → mRc S I st li b v tot re M E C K → I 45 = nI xs.length → am_get S 432 = some (iA 60 ch) → I 47 = nI zs.length → am_get S 433 = some (lA 60 g) → tD g zs → (∀ zs' g' T J st' li' K', zs' = (xs.drop i).foldl (gat1 b tot re path) zs → fr [408, 425, 426, 427, 433] S T → gf [19, 20, 21, 22, 24, 29, 33, 35, 36, 47, 57] I J → mRc T J st' li' b v tot re M E C K' → J 47 = nI zs'.length → am_get T 433 = some (lA 60 g') → tD g' zs' → Q (.inl none, T)) → wp X (d + 14) 155 7 [some (.ref 408), some (.int path), some (.int (nI i)), x3, x4, x5] [] S Q := by
  intro m
  induction m with
  | zero =>
    intro i zs g S I st li K x3 x4 x5 him hzi h h45 hch h47 hg hD hq
    obtain rfl : i = xs.length := by omega
    iterate 2 refine wp_step rfl rfl ?_
    refine wp_getg (v := (.int (nI xs.length))) rfl h.1 (by decide) (congrArg Value.int h45) ?_
    refine wp_icmp rfl (fun c0 => ?_) (fun c0 => ?_)
    · replace c0 := n_ge_t (a := xs.length) (b := xs.length) (by omega) (by omega) c0
      refine wp_vret rfl rfl (hq zs g S I st li K (by rw [List.drop_eq_nil_of_le (Nat.le_refl _)]; rfl) (fr_refl _ _) (gf_refl _ _) h h47 hg hD)
    · replace c0 := n_ge_f (a := xs.length) (b := xs.length) (by omega) (by omega) c0
      omega
  | succ m ih =>
    intro i zs g S I st li K x3 x4 x5 him hzi h h45 hch h47 hg hD hq
    iterate 2 refine wp_step rfl rfl ?_
    refine wp_getg (v := (.int (nI xs.length))) rfl h.1 (by decide) (congrArg Value.int h45) ?_
    refine wp_icmp rfl (fun c0 => ?_) (fun c0 => ?_)
    · replace c0 := n_ge_t (a := i) (b := xs.length) (by omega) (by omega) c0
      omega
    · replace c0 := n_ge_f (a := i) (b := xs.length) (by omega) (by omega) c0
      have hil : i < xs.length := by omega
      have hxi : xs[i]? = some xs[i] := List.getElem?_eq_getElem hil
      have hdr : xs.drop i = xs[i] :: xs.drop (i + 1) := List.drop_eq_getElem_cons hil
      have hel := hxe xs[i] (List.getElem_mem hil)
      generalize xs[i] = e at hxi hdr hel
      have hye : re.2.1[e]? = some re.2.1[e] := List.getElem?_eq_getElem hel
      generalize re.2.1[e] = y at hye
      iterate 2 refine wp_step rfl rfl ?_
      refine wp_getg rfl h.1 (by decide) rfl ?_
      refine wp_step rfl rfl ?_
      refine wp_ald rfl (Or.inl ⟨rfl, rfl⟩) (by decide) hch (am_in_nI (by omega) (by decide)) ?_
      rw [nI_clamp (by omega)]
      rw [hxs i e hxi]
      refine wp_step rfl rfl ?_
      refine wp_c0 rfl rfl (by decide) rfl (recv_ok h.1 rfl) rfl (q_misNum (path := path) hb hR hP hE h hye (fun ck T J st2 li2 K2 hf2 hg2 hl2 hs2 => ?_))
      have hch2 : am_get T 432 = some (iA 60 ch) := by rw [fr_get hf2 (by decide)]; exact hch
      have hg2' : am_get T 433 = some (lA 60 g) := by rw [fr_get hf2 (by decide)]; exact hg
      have j45 := (hg2 45 (by decide)).trans h45
      have j47 := (hg2 47 (by decide)).trans h47
      have hf02 : fr [408, 425, 426, 427, 433] S T := fr_mono hf2 (fun j hj => by simp only [List.mem_cons, List.not_mem_nil, or_false] at hj ⊢; omega)
      have hg02 : gf [19, 20, 21, 22, 24, 29, 33, 35, 36, 47, 57] I J := gf_mono hg2 (fun j hj => by simp only [List.mem_cons, List.not_mem_nil, or_false] at hj ⊢; omega)
      cases en : isNm b (ldE b tot re y path) with
      | false =>
        show wp X (d + 14) 155 26 [some (.ref 408), some (.int path), some (.int (nI i)), x3, x4, x5] [.int 0] T Q
        refine wp_if_t rfl rfl ?_
        iterate 2 refine wp_step rfl rfl ?_
        rw [show nI i + Int32.ofInt 1 = nI (i + 1) from nI_add i 1]
        exact ih (i + 1) zs g T J st2 li2 K2 _ _ _ (by omega) (by omega) hl2.1 j45 hch2 j47 hg2' hD (fun zs' g' T3 J3 st3 li3 K3 b1 b2 b3 b4 b5 b6 b7 => hq zs' g' T3 J3 st3 li3 K3 (by rw [b1, hdr, List.foldl_cons, show gat1 b tot re path zs e = zs from by unfold gat1; rw [hye]; dsimp only; rw [en]; rfl]) (fr_trans hf02 b2) (gf_trans hg02 b3) b4 b5 b6 b7)
      | true =>
        obtain ⟨o, el⟩ : ∃ o, ldE b tot re y path = some o := by
          cases el : ldE b tot re y path with
          | none => rw [el] at en; exact absurd en (show ¬ (decide ((2 : Nat) ≤ 0 ∧ (0 : Nat) ≤ 7) = true) by decide)
          | some o => exact ⟨o, rfl⟩
        rw [el] at hs2
        have hga : gat1 b tot re path zs e = ins (wrO b tot re y (ldE b tot re y path)) zs := by unfold gat1; rw [hye]; dsimp only; rw [en]; rfl
        show wp X (d + 14) 155 26 [some (.ref 408), some (.int path), some (.int (nI i)), x3, x4, x5] [.int 1] T Q
        refine wp_if_f rfl rfl ?_
        refine wp_step rfl rfl ?_
        refine wp_c0 rfl rfl (by decide) rfl (recv_ok hl2.1.1 rfl) rfl (q_mworth hb hl2 hs2 (fun T3 J3 hf3 hg3 hl3 => ?_))
        rw [wrV_O hl3.2.2.2, ← el]
        generalize wrO b tot re y (ldE b tot re y path) = w at hga ⊢
        have k47 := (hg3 47 (by decide)).trans j47
        have hf03 : fr [408, 425, 426, 427, 433] S T3 := fr_trans hf02 (fr_mono hf3 (fun j hj => by simp only [List.mem_cons, List.not_mem_nil, or_false] at hj ⊢; omega))
        have hg03 : gf [19, 20, 21, 22, 24, 29, 33, 35, 36, 47, 57] I J3 := gf_trans hg02 (gf_mono hg3 (fun j hj => by simp only [List.mem_cons, List.not_mem_nil, or_false] at hj ⊢; omega))
        have hg3' : am_get T3 433 = some (lA 60 g) := by rw [fr_get hf3 (by decide)]; exact hg2'
        refine wp_step rfl rfl ?_
        show wp X (d + 14) 155 34 [some (.ref 408), some (.int path), some (.int (nI i)), some (.long w), none, x5] [] T3 Q
        refine wp_step rfl rfl ?_
        refine wp_getg (v := (.int (nI zs.length))) rfl hl3.1.1 (by decide) (congrArg Value.int k47) ?_
        refine wp_step rfl rfl ?_
        show wp X (d + 14) 155 40 [some (.ref 408), some (.int path), some (.int (nI i)), some (.long w), none, some (.int (nI zs.length))] [] T3 Q
        refine ga_in k47 (by omega) zs.length g T3 (Nat.le_refl _) rfl (fun j hj => hD j hj) (fun j h1 h2 => by omega) hl3.1.1 hg3' (fun T4 J4 g4 z5 hf4 hg4 a4 j4 hg4' hD4 => ?_)
        have h4 : mRc T4 J4 st2 li2 b v tot re M E C K2 := mRc_up hl3.1 hf4 (fun j hj => by simp only [List.mem_cons, List.not_mem_nil, or_false] at hj; omega) a4 hg4 (by decide) (by decide) (by decide) (mSk_fr hl3.1.2.2.2.2.2.2.2.2.2.2.2.2.2.2.2.2 hf4 (fun j hj => by simp only [List.mem_cons, List.not_mem_nil, or_false] at hj; omega))
        iterate 2 refine wp_step rfl rfl ?_
        rw [show nI i + Int32.ofInt 1 = nI (i + 1) from nI_add i 1]
        exact ih (i + 1) (ins w zs) g4 T4 J4 st2 li2 K2 _ _ _ (by omega) (by rw [ins_len]; omega) h4 ((hg4 45 (by decide)).trans ((hg3 45 (by decide)).trans j45)) (by rw [fr_get hf4 (by decide), fr_get hf3 (by decide)]; exact hch2) (by rw [ins_len]; exact j4) hg4' hD4 (fun zs' g' T5 J5 st5 li5 K5 b1 b2 b3 b4 b5 b6 b7 => hq zs' g' T5 J5 st5 li5 K5 (by rw [b1, hdr, List.foldl_cons, hga]) (fr_trans hf03 (fr_trans (fr_mono hf4 (fun j hj => by simp only [List.mem_cons, List.not_mem_nil, or_false] at hj ⊢; omega)) b2)) (gf_trans hg03 (gf_trans (gf_mono hg4 (fun j hj => by simp only [List.mem_cons, List.not_mem_nil, or_false] at hj ⊢; omega)) b3)) b4 b5 b6 b7)
theorem q_mgather {S : am_S} {I : Nat → Int32} {st li : Int64} {K : jMK} {xs : List Nat} {ch : Nat → Int32} {g : Nat → Int64} {path : Int32} (hb : ∀ j, b j < 256) (hR : reQ b tot re) (hP : evP b tot re) (hE : evR b tot re) (h : mRc S I st li b v tot re M E C K) (h45 : I 45 = nI xs.length) (hch : am_get S 432 = some (iA 60 ch)) (hxs : chD ch xs) (hxe : ∀ e, e ∈ xs → e < re.2.1.length) (hx60 : xs.length ≤ 60) (hg : am_get S 433 = some (lA 60 g)) (hq : ∀ zs' g' T J st' li' K', zs' = gat b tot re path xs → fr [408, 425, 426, 427, 433] S T → gf [19, 20, 21, 22, 24, 29, 33, 35, 36, 47, 57] I J → mRc T J st' li' b v tot re M E C K' → J 47 = nI zs'.length → am_get T 433 = some (lA 60 g') → tD g' zs' → Q (.inl none, T)) : ev X (d + 15) 155 [.ref 408, .int path] S Q := by
  refine ev_wp (L0 := [some (.ref 408), some (.int path), none, none, none, none]) (Nat.le_of_ble_eq_true rfl) rfl ?_
  iterate 2 refine wp_step rfl rfl ?_
  refine wp_putg rfl h.1 (by decide) rfl rfl ?_
  rw [mkG_i rfl]
  have h_Sx2 : am_get (am_upd S 408 (moC (upd I 47 (Int32.ofInt 0)) st li)) 408 = some (moC (upd I 47 (Int32.ofInt 0)) st li) := am_get_self h.1
  have hf_Sx2 : fr [408] S (am_upd S 408 (moC (upd I 47 (Int32.ofInt 0)) st li)) := fr_up (by simp)
  generalize am_upd S 408 (moC (upd I 47 (Int32.ofInt 0)) st li) = Sx2 at h_Sx2 hf_Sx2 ⊢
  iterate 2 refine wp_step rfl rfl ?_
  have hg_J : gf [47] I (upd I 47 (Int32.ofInt 0)) := gf_up (gf_refl _ _) (by simp)
  have J_47 : (upd I 47 (Int32.ofInt 0)) 47 = nI 0 := pk_us
  have a_J := h_Sx2
  have hf_J := hf_Sx2
  clear h_Sx2 hf_Sx2
  generalize upd I 47 (Int32.ofInt 0) = J at a_J hg_J J_47
  have h1 := mRc_1 (st' := st) (li' := li) h hf_J a_J hg_J (by decide) (by decide) (by decide)
  show wp X (d + 14) 155 7 [some (.ref 408), some (.int path), some (.int (nI 0)), none, none, none] [] Sx2 Q
  exact ga_loop hb hR hP hE hx60 hxs hxe xs.length 0 [] g Sx2 J st li K none none none (by omega) (Nat.le_refl _) h1 ((hg_J 45 (by decide)).trans h45) (by rw [fr_get hf_J (by decide)]; exact hch) J_47 (by rw [fr_get hf_J (by decide)]; exact hg) (fun j hj => by simp at hj) (fun zs' g' T2 J2 st2 li2 K2 b1 b2 b3 b4 b5 b6 b7 => hq zs' g' T2 J2 st2 li2 K2 (by rw [b1, List.drop_zero]; rfl) (fr_trans (fr_mono hf_J (fun j hj => by simp only [List.mem_cons, List.not_mem_nil, or_false] at hj ⊢; omega)) b2) (gf_trans (gf_mono hg_J (fun j hj => by simp only [List.mem_cons, List.not_mem_nil, or_false] at hj ⊢; omega)) b3) b4 b5 b6 b7)
theorem mw_loop {S : am_S} {I : Nat → Int32} {st li : Int64} {g : Nat → Int64} {zs : List Int64} (h : am_get S 408 = some (moC I st li)) (h47 : I 47 = nI zs.length) (hg : am_get S 433 = some (lA 60 g)) (hD : tD g zs) (hl : zs.length ≤ 60) (hn0 : 0 < lN zs.length) : ∀ (m i : Nat) (a c : Int64) (x6 x7 : Option Value), i + m = zs.length → (∀ y6 y7, wp X (d + 1) 156 63 [some (.ref 408), some (.long ((zs.drop i).foldl (fun a x => (a.1 + fdv x (lN zs.length), a.2 + fmd x (lN zs.length))) (a, c)).1), none, some (.long ((zs.drop i).foldl (fun a x => (a.1 + fdv x (lN zs.length), a.2 + fmd x (lN zs.length))) (a, c)).2), none, some (.int (nI zs.length)), y6, y7] [] S Q) → wp X (d + 1) 156 7 [some (.ref 408), some (.long a), none, some (.long c), none, some (.int (nI i)), x6, x7] [] S Q := by
  intro m
  induction m with
  | zero =>
    intro i a c x6 x7 him hq
    obtain rfl : i = zs.length := by omega
    iterate 2 refine wp_step rfl rfl ?_
    refine wp_getg (v := (.int (nI zs.length))) rfl h (by decide) (congrArg Value.int h47) ?_
    refine wp_icmp rfl (fun c0 => ?_) (fun c0 => ?_)
    · replace c0 := n_ge_t (a := zs.length) (b := zs.length) (by omega) (by omega) c0
      have hq0 := hq x6 x7
      rw [List.drop_eq_nil_of_le (Nat.le_refl _)] at hq0
      exact hq0
    · replace c0 := n_ge_f (a := zs.length) (b := zs.length) (by omega) (by omega) c0
      omega
  | succ m ih =>
    intro i a c x6 x7 him hq
    iterate 2 refine wp_step rfl rfl ?_
    refine wp_getg (v := (.int (nI zs.length))) rfl h (by decide) (congrArg Value.int h47) ?_
    refine wp_icmp rfl (fun c0 => ?_) (fun c0 => ?_)
    · replace c0 := n_ge_t (a := i) (b := zs.length) (by omega) (by omega) c0
      omega
    · replace c0 := n_ge_f (a := i) (b := zs.length) (by omega) (by omega) c0
      have hil : i < zs.length := by omega
      have hdr : zs.drop i = zs[i] :: zs.drop (i + 1) := List.drop_eq_getElem_cons hil
      have hgi : g i = zs[i] := by rw [hD i hil, List.getD_eq_getElem?_getD, List.getElem?_eq_getElem hil]; rfl
      rw [hdr, List.foldl_cons] at hq
      generalize zs[i] = x at hq hgi
      refine wp_step rfl rfl ?_
      refine wp_getg rfl h (by decide) rfl ?_
      refine wp_step rfl rfl ?_
      refine wp_lald rfl (by decide) hg (am_in_nI (by omega) (by decide)) ?_
      rw [nI_clamp (by omega)]
      rw [hgi]
      refine wp_step rfl rfl ?_
      refine wp_getg (v := (.int (nI zs.length))) rfl h (by decide) (congrArg Value.int h47) ?_
      refine wp_step rfl rfl ?_
      rw [nI_l (by omega)]
      refine wp_c0 rfl rfl (by decide) rfl (rfl) rfl (q_mlower hn0 ?_)
      iterate 5 refine wp_step rfl rfl ?_
      show wp X (d + 1) 156 38 [some (.ref 408), some (.long (a + fdv x (lN zs.length))), none, some (.long c), none, some (.int (nI i)), some (.long (fdv x (lN zs.length))), none] [] S Q
      iterate 2 refine wp_step rfl rfl ?_
      refine wp_getg rfl h (by decide) rfl ?_
      refine wp_step rfl rfl ?_
      refine wp_lald rfl (by decide) hg (am_in_nI (by omega) (by decide)) ?_
      rw [nI_clamp (by omega)]
      rw [hgi]
      iterate 2 refine wp_step rfl rfl ?_
      refine wp_getg (v := (.int (nI zs.length))) rfl h (by decide) (congrArg Value.int h47) ?_
      refine wp_step rfl rfl ?_
      rw [nI_l (by omega)]
      iterate 6 refine wp_step rfl rfl ?_
      rw [show nI i + Int32.ofInt 1 = nI (i + 1) from nI_add i 1]
      exact ih (i + 1) (a + fdv x (lN zs.length)) (c + fmd x (lN zs.length)) _ _ (by omega) hq
set_option maxHeartbeats 1000000 in
theorem q_mmean {S : am_S} {I : Nat → Int32} {st li : Int64} {g : Nat → Int64} {zs : List Int64} (h : am_get S 408 = some (moC I st li)) (h47 : I 47 = nI zs.length) (hg : am_get S 433 = some (lA 60 g)) (hD : tD g zs) (hl : zs.length ≤ 60) (hz : zs.length ≠ 0) (hq : Q (.inl (some (.long (mnZ zs))), S)) : ev X (d + 2) 156 [.ref 408] S Q := by
  refine ev_wp (L0 := [some (.ref 408), none, none, none, none, none, none, none]) (Nat.le_of_ble_eq_true rfl) rfl ?_
  iterate 6 refine wp_step rfl rfl ?_
  have hn0 : 0 < lN zs.length := lN_pos hz (by omega)
  have hn1 : lN zs.length ≠ 0 := fun e9 => by rw [e9] at hn0; exact absurd hn0 (by decide)
  show wp X (d + 1) 156 7 [some (.ref 408), some (.long 0), none, some (.long 0), none, some (.int (nI 0)), none, none] [] S Q
  refine mw_loop h h47 hg hD hl hn0 zs.length 0 0 0 none none (by omega) (fun y6 y7 => ?_)
  rw [List.drop_zero]
  show wp X (d + 1) 156 63 [some (.ref 408), some (.long (mnS (lN zs.length) zs).1), none, some (.long (mnS (lN zs.length) zs).2), none, some (.int (nI zs.length)), y6, y7] [] S Q
  unfold mnZ at hq
  generalize (mnS (lN zs.length) zs).1 = wh at hq ⊢
  generalize (mnS (lN zs.length) zs).2 = rs at hq ⊢
  iterate 3 refine wp_step rfl rfl ?_
  refine wp_getg (v := (.int (nI zs.length))) rfl h (by decide) (congrArg Value.int h47) ?_
  refine wp_step rfl rfl ?_
  rw [nI_l (by omega)]
  refine wp_ldiv rfl (hn1) ?_
  iterate 5 refine wp_step rfl rfl ?_
  refine wp_getg (v := (.int (nI zs.length))) rfl h (by decide) (congrArg Value.int h47) ?_
  refine wp_step rfl rfl ?_
  rw [nI_l (by omega)]
  refine wp_lrem rfl (hn1) ?_
  iterate 2 refine wp_step rfl rfl ?_
  show wp X (d + 1) 156 86 [some (.ref 408), some (.long (wh + rs / lN zs.length)), none, some (.long rs), none, some (.long (2 * (rs - rs / lN zs.length * lN zs.length))), none, y7] [] S Q
  unfold mnF at hq
  generalize 2 * (rs - rs / lN zs.length * lN zs.length) = tw at hq ⊢
  generalize wh + rs / lN zs.length = w at hq ⊢
  have K1 : (if w < 0 then lN zs.length < tw else lN zs.length ≤ tw) → wp X (d + 1) 156 114 [some (.ref 408), some (.long w), none, some (.long rs), none, some (.long tw), none, y7] [] S Q := by
    intro hu
    iterate 3 refine wp_step rfl rfl ?_
    show wp X (d + 1) 156 121 [some (.ref 408), some (.long w), none, some (.long rs), none, some (.long tw), none, some (.int 1)] [] S Q
    refine wp_step rfl rfl ?_
    refine wp_if_f rfl rfl ?_
    iterate 4 refine wp_step rfl rfl ?_
    refine wp_lret rfl rfl (by rw [if_pos hu] at hq; exact hq)
  have K0 : ¬ (if w < 0 then lN zs.length < tw else lN zs.length ≤ tw) → wp X (d + 1) 156 118 [some (.ref 408), some (.long w), none, some (.long rs), none, some (.long tw), none, y7] [] S Q := by
    intro hu
    iterate 2 refine wp_step rfl rfl ?_
    show wp X (d + 1) 156 121 [some (.ref 408), some (.long w), none, some (.long rs), none, some (.long tw), none, some (.int 0)] [] S Q
    refine wp_step rfl rfl ?_
    refine wp_if_t rfl rfl ?_
    refine wp_step rfl rfl ?_
    refine wp_lret rfl rfl (by rw [if_neg hu] at hq; exact hq)
  iterate 2 refine wp_step rfl rfl ?_
  refine wp_getg (v := (.int (nI zs.length))) rfl h (by decide) (congrArg Value.int h47) ?_
  refine wp_step rfl rfl ?_
  rw [nI_l (by omega)]
  refine wp_step rfl rfl ?_
  refine wp_if rfl (fun c1 => ?_) (fun c1 => ?_)
  · replace c1 := l_gt_t c1
    exact K1 (by split; exact c1; exact Int64.le_of_lt c1)
  · replace c1 := l_gt_f c1
    iterate 2 refine wp_step rfl rfl ?_
    refine wp_getg (v := (.int (nI zs.length))) rfl h (by decide) (congrArg Value.int h47) ?_
    refine wp_step rfl rfl ?_
    rw [nI_l (by omega)]
    refine wp_step rfl rfl ?_
    refine wp_if rfl (fun c2 => ?_) (fun c2 => ?_)
    · replace c2 := l_ne_t c2
      exact K0 (by split; exact c1; exact fun h9 => c2 (Int64.le_antisymm (Int64.not_lt.mp c1) h9))
    · replace c2 := l_ne_f c2
      iterate 3 refine wp_step rfl rfl ?_
      refine wp_if rfl (fun c3 => ?_) (fun c3 => ?_)
      · replace c3 := l_lt_t c3
        exact K0 (by rw [if_pos (show w < 0 from c3)]; exact c1)
      · replace c3 := l_lt_f c3
        exact K1 (by rw [if_neg (show ¬ w < 0 from c3), c2]; exact Int64.le_refl _)
end MFOLD
