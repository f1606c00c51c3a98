/-! THE MODEL: begin and finish -/
section MPASS2
variable {X : Nat × (Nat → Int32)} {d : Nat} {st li : Int64} {b : Nat → Nat} {w lim sl : Nat} {τ : jTT} {M : jMT} {chk : Bool}
set_option maxHeartbeats 1000000 in
theorem ar_fin {Q : am_R → Prop} {h ty f1 D : Nat} (ih : BF X d st li b w lim sl τ M chk h) (hkn : knM τ ty) (hf1 : f1 ≤ 1) (hsf : ∀ m : Nat, sf τ h ty f1) (hD : D + (h + 1) ≤ 39) : ∀ (m : Nat), m < 2 ^ 31 → ∀ (p n : Nat) (K : jMK) (S : am_S) (I : Nat → Int32), mR S I st li b w p lim → I 29 = nI (D + 1) → mSk S K → (K.1 D = nI m ∧ K.2.1 D = lN ty ∧ K.2.2 D = nI f1) → mV I chk n → I 20 = nI sl → mTa S M →
      (∀ p' n' T J K', rvs (rv τ b chk lim h) (List.replicate m (ty, f1)) p n = .inr (p', n') → fr [408, 425, 426, 427] S T → gf [21, 24, 29] I J → mR T J st li b w p' lim → J 29 = nI D → mSk T K' → agK K K' D → mV J chk n' → FIN X (d + 6) Q T) →
      (∀ k pl T J K', rvs (rv τ b chk lim h) (List.replicate m (ty, f1)) p n = .inl (k, pl) → fr [408, 425, 426, 427] S T → gf [21, 24, 25, 26, 29] I J → mX T J st li k pl → mSk T K' → (∃ q, J 21 = nI q) → (∃ q, J 29 = nI q ∧ q < 2 ^ 31) → FIN X (d + 6) Q T) → FIN X (d + 6) Q S := by
  have hsf := hsf 0
  intro m
  induction m with
  | zero =>
    intro hm p n K S I h h29 hK hA hV h20 hM hret hbad
    intro y1 y2 y3
    refine wp_step rfl rfl ?_
    refine wp_getg (v := (.int (nI (D + 1)))) rfl h.1 (by decide) (congrArg Value.int h29) ?_
    refine wp_if rfl (fun c0 => ?_) (fun c0 => ?_)
    · replace c0 := z_le_t (a := D + 1) (by omega) c0
      omega
    · replace c0 := z_le_f (a := D + 1) (by omega) c0
      refine wp_step rfl rfl ?_
      refine wp_getg (v := (.int 0)) rfl h.1 (by decide) (congrArg Value.int h.2.2.2.2.2.1) ?_
      refine wp_if_f rfl rfl ?_
      refine wp_step rfl rfl ?_
      refine wp_getg (v := (.int (nI (D + 1)))) rfl h.1 (by decide) (congrArg Value.int h29) ?_
      iterate 2 refine wp_step rfl rfl ?_
      rw [show nI (D + 1) - Int32.ofInt 1 = nI D from nI_pred D]
      refine wp_step rfl rfl ?_
      show wp X (d + 6) 107 21 [some (.ref 408), some (.int (nI D)), y2, y3] [] S Q
      refine wp_step rfl rfl ?_
      refine wp_getg rfl h.1 (by decide) rfl ?_
      refine wp_step rfl rfl ?_
      refine wp_ald rfl (Or.inl ⟨rfl, rfl⟩) (by decide) hK.1 (am_in_nI (by omega) (by decide)) ?_
      rw [nI_clamp (by omega)]
      rw [hA.1]
      refine wp_if rfl (fun c1 => ?_) (fun c1 => ?_)
      · replace c1 := z_ge_t (a := 0) (by omega) c1
        refine wp_step rfl rfl ?_
        refine wp_getg rfl h.1 (by decide) rfl ?_
        refine wp_step rfl rfl ?_
        refine wp_ald rfl (Or.inl ⟨rfl, rfl⟩) (by decide) hK.1 (am_in_nI (by omega) (by decide)) ?_
        rw [nI_clamp (by omega)]
        rw [hA.1]
        refine wp_if rfl (fun c2 => ?_) (fun c2 => ?_)
        · replace c2 := z_ne_t (a := 0) (by omega) c2
          omega
        · replace c2 := z_ne_f (a := 0) (by omega) c2
          iterate 2 refine wp_step rfl rfl ?_
          refine wp_getg (v := (.int (nI (D + 1)))) rfl h.1 (by decide) (congrArg Value.int h29) ?_
          iterate 2 refine wp_step rfl rfl ?_
          rw [show nI (D + 1) - Int32.ofInt 1 = nI D from nI_pred D]
          refine wp_putg rfl h.1 (by decide) rfl rfl ?_
          rw [mkG_i rfl]
          iterate 2 refine wp_step rfl rfl ?_
          exact (hret p n _ _ K rfl (fr_up (by simp)) (gf_up (gf_refl _ _) (by simp)) ⟨am_get_self h.1, mBy_fr h.2.1 (fr_up (js := [408]) (by simp)) (by decide), (pk_un (by decide)).trans h.2.2.1, (pk_un (by decide)).trans h.2.2.2.1, (pk_un (by decide)).trans h.2.2.2.2.1, (pk_un (by decide)).trans h.2.2.2.2.2.1, h.2.2.2.2.2.2⟩ pk_us (mSk_fr hK (fr_up (js := [408]) (by simp)) (fun j hj => by simp at hj; omega)) (agK_refl _ _) ⟨fun e => ⟨(pk_un (by decide)).trans (hV.1 e).1, (pk_un (by decide)).trans (hV.1 e).2.1, (hV.1 e).2.2⟩, fun e => (pk_un (by decide)).trans (hV.2 e)⟩) _ _ _
      · replace c1 := z_ge_f (a := 0) (by omega) c1
        exact c1.elim
  | succ m ihm =>
    intro hm p n K S I h h29 hK hA hV h20 hM hret hbad
    replace ihm := ihm (by omega)
    intro y1 y2 y3
    refine wp_step rfl rfl ?_
    refine wp_getg (v := (.int (nI (D + 1)))) rfl h.1 (by decide) (congrArg Value.int h29) ?_
    refine wp_if rfl (fun c0 => ?_) (fun c0 => ?_)
    · replace c0 := z_le_t (a := D + 1) (by omega) c0
      omega
    · replace c0 := z_le_f (a := D + 1) (by omega) c0
      refine wp_step rfl rfl ?_
      refine wp_getg (v := (.int 0)) rfl h.1 (by decide) (congrArg Value.int h.2.2.2.2.2.1) ?_
      refine wp_if_f rfl rfl ?_
      refine wp_step rfl rfl ?_
      refine wp_getg (v := (.int (nI (D + 1)))) rfl h.1 (by decide) (congrArg Value.int h29) ?_
      iterate 2 refine wp_step rfl rfl ?_
      rw [show nI (D + 1) - Int32.ofInt 1 = nI D from nI_pred D]
      refine wp_step rfl rfl ?_
      show wp X (d + 6) 107 21 [some (.ref 408), some (.int (nI D)), y2, y3] [] S Q
      refine wp_step rfl rfl ?_
      refine wp_getg rfl h.1 (by decide) rfl ?_
      refine wp_step rfl rfl ?_
      refine wp_ald rfl (Or.inl ⟨rfl, rfl⟩) (by decide) hK.1 (am_in_nI (by omega) (by decide)) ?_
      rw [nI_clamp (by omega)]
      rw [hA.1]
      refine wp_if rfl (fun c1 => ?_) (fun c1 => ?_)
      · replace c1 := z_ge_t (a := m + 1) (by omega) c1
        refine wp_step rfl rfl ?_
        refine wp_getg rfl h.1 (by decide) rfl ?_
        refine wp_step rfl rfl ?_
        refine wp_ald rfl (Or.inl ⟨rfl, rfl⟩) (by decide) hK.1 (am_in_nI (by omega) (by decide)) ?_
        rw [nI_clamp (by omega)]
        rw [hA.1]
        refine wp_if rfl (fun c2 => ?_) (fun c2 => ?_)
        · replace c2 := z_ne_t (a := m + 1) (by omega) c2
          refine wp_step rfl rfl ?_
          refine wp_getg rfl h.1 (by decide) rfl ?_
          iterate 2 refine wp_step rfl rfl ?_
          refine wp_ald rfl (Or.inl ⟨rfl, rfl⟩) (by decide) hK.1 (am_in_nI (by omega) (by decide)) ?_
          rw [nI_clamp (by omega)]
          rw [hA.1]
          iterate 2 refine wp_step rfl rfl ?_
          rw [show nI (m + 1) - Int32.ofInt 1 = nI m from nI_pred m]
          refine wp_ast rfl (Or.inl ⟨rfl, rfl⟩) hK.1 (am_in_nI (by omega) (by decide)) ?_
          rw [nI_clamp (by omega)]
          rw [show vp_nar (am_ty 0) (nI m) = nI m from rfl]
          have hK1 := mSk_5 hK (upd K.1 D (nI m))
          have hf1 : fr [408, 425, 426, 427] S (am_upd S 425 (iA 40 (upd K.1 D (nI m)))) := fr_up (by simp)
          have hf1' : fr [425] S (am_upd S 425 (iA 40 (upd K.1 D (nI m)))) := fr_up (by simp)
          generalize am_upd S 425 (iA 40 (upd K.1 D (nI m))) = S1 at hK1 hf1 hf1' ⊢
          have h1 := mR_fr h hf1' (by decide) (by decide)
          have hM1 := mTa_fr hM hf1' (fun j hj => by simp only [List.mem_cons, List.not_mem_nil, or_false] at hj; omega)
          iterate 2 refine wp_step rfl rfl ?_
          refine wp_getg rfl h1.1 (by decide) rfl ?_
          refine wp_step rfl rfl ?_
          refine wp_lald rfl (by decide) hK1.2.1 (am_in_nI (by omega) (by decide)) ?_
          rw [nI_clamp (by omega)]
          rw [hA.2.1]
          refine wp_step rfl rfl ?_
          refine wp_getg rfl h1.1 (by decide) rfl ?_
          refine wp_step rfl rfl ?_
          refine wp_ald rfl (Or.inl ⟨rfl, rfl⟩) (by decide) hK1.2.2 (am_in_nI (by omega) (by decide)) ?_
          rw [nI_clamp (by omega)]
          rw [hA.2.2]
          refine wp_c0 rfl rfl (by decide) rfl (recv_ok h1.1 rfl) rfl (ev_conv (ih ty f1 p n (D + 1) _ S1 I Q hkn (by omega) hsf (by omega) h1 h29 hK1 hV h20 hM1 (fun p1 n1 T J K1 e1 hf2 hg2 h2 h292 hK2 ha2 hV2 => ?_) (fun k pl T J K1 e1 hf2 hg2 h2 hK2 hq2 hq3 => ?_)) (fun r hr => ?_))
          · have hD2 := ha2 D (by omega)
            have ha0 : agK K (upd K.1 D (nI m), K.2.1, K.2.2) D := fun j hj => ⟨pk_un (by omega), rfl, rfl⟩
            refine ihm p1 n1 K1 T J h2 h292 hK2 ⟨hD2.1.trans pk_us, hD2.2.1.trans hA.2.1, hD2.2.2.trans hA.2.2⟩ hV2 ((hg2 20 (by decide)).trans h20) (mTa_fr hM1 hf2 (fun j hj => by simp only [List.mem_cons, List.not_mem_nil, or_false] at hj; omega)) (fun p2 n2 T2 J2 K3 e2 hf3 hg3 h3 h293 hK3 ha3 hV3 => ?_) (fun k pl T2 J2 K3 e2 hf3 hg3 h3 hK3 hq4 hq5 => ?_)
            · exact hret p2 n2 T2 J2 K3 (by rw [List.replicate_succ]; unfold rvs; rw [e1]; exact e2) (fr_trans hf1 (fr_trans hf2 hf3)) (gf_trans hg2 hg3) h3 h293 hK3 (agK_trans (agK_trans ha0 ha2 (by omega)) ha3 (Nat.le_refl _)) hV3
            · exact hbad k pl T2 J2 K3 (by rw [List.replicate_succ]; unfold rvs; rw [e1]; exact e2) (fr_trans hf1 (fr_trans hf2 hf3)) (gf_trans (gf_mono hg2 (fun j hj => by simp only [List.mem_cons, List.not_mem_nil, or_false] at hj ⊢; omega)) hg3) h3 hK3 hq4 hq5
          · exact hbad k pl T J K1 (by rw [List.replicate_succ]; unfold rvs; rw [e1]) (fr_trans hf1 hf2) hg2 h2 hK2 hq2 hq3
          · obtain ⟨T, rfl, -, hF⟩ := hr
            show wp X (d + 6) 107 155 _ [] T Q
            refine wp_step rfl rfl ?_
            exact hF _ _ _
        · replace c2 := z_ne_f (a := m + 1) (by omega) c2
          omega
      · replace c1 := z_ge_f (a := m + 1) (by omega) c1
        exact c1.elim
set_option maxHeartbeats 1000000 in
theorem st_fin {Q : am_R → Prop} {h s D : Nat} {fs : List jFd} (ih : BF X d st li b w lim sl τ M chk h) (hs : s < 80) (hl : fs.length ≤ 8) (hFs : mFs M s fs) (hfo : ∀ y, y ∈ fs → knM τ y.2.1 ∧ y.2.2 ≤ 3 ∧ sf τ h y.2.1 y.2.2) (hD : D + (h + 1) ≤ 39) : ∀ (m f p n : Nat) (K : jMK) (S : am_S) (I : Nat → Int32), f + m = fs.length → mR S I st li b w p lim → I 29 = nI (D + 1) → mSk S K → (K.1 D = -1 ∧ K.2.1 D = lN s ∧ K.2.2 D = nI f) → mV I chk n → I 20 = nI sl → mTa S M →
      (∀ p' n' T J K', rvs (rv τ b chk lim h) (fjs (fs.drop f)) p n = .inr (p', n') → fr [408, 425, 426, 427] S T → gf [21, 24, 29] I J → mR T J st li b w p' lim → J 29 = nI D → mSk T K' → agK K K' D → mV J chk n' → FIN X (d + 6) Q T) →
      (∀ k pl T J K', rvs (rv τ b chk lim h) (fjs (fs.drop f)) p n = .inl (k, pl) → fr [408, 425, 426, 427] S T → gf [21, 24, 25, 26, 29] I J → mX T J st li k pl → mSk T K' → (∃ q, J 21 = nI q) → (∃ q, J 29 = nI q ∧ q < 2 ^ 31) → FIN X (d + 6) Q T) → FIN X (d + 6) Q S := by
  intro m
  induction m with
  | zero =>
    intro f p n K S I hfm h h29 hK hA hV h20 hM hret hbad
    intro y1 y2 y3
    refine wp_step rfl rfl ?_
    refine wp_getg (v := (.int (nI (D + 1)))) rfl h.1 (by decide) (congrArg Value.int h29) ?_
    refine wp_if rfl (fun c0 => ?_) (fun c0 => ?_)
    · replace c0 := z_le_t (a := D + 1) (by omega) c0
      omega
    · replace c0 := z_le_f (a := D + 1) (by omega) c0
      refine wp_step rfl rfl ?_
      refine wp_getg (v := (.int 0)) rfl h.1 (by decide) (congrArg Value.int h.2.2.2.2.2.1) ?_
      refine wp_if_f rfl rfl ?_
      refine wp_step rfl rfl ?_
      refine wp_getg (v := (.int (nI (D + 1)))) rfl h.1 (by decide) (congrArg Value.int h29) ?_
      iterate 2 refine wp_step rfl rfl ?_
      rw [show nI (D + 1) - Int32.ofInt 1 = nI D from nI_pred D]
      refine wp_step rfl rfl ?_
      show wp X (d + 6) 107 21 [some (.ref 408), some (.int (nI D)), y2, y3] [] S Q
      refine wp_step rfl rfl ?_
      refine wp_getg rfl h.1 (by decide) rfl ?_
      refine wp_step rfl rfl ?_
      refine wp_ald rfl (Or.inl ⟨rfl, rfl⟩) (by decide) hK.1 (am_in_nI (by omega) (by decide)) ?_
      rw [nI_clamp (by omega)]
      rw [hA.1]
      refine wp_if_f rfl rfl ?_
      refine wp_step rfl rfl ?_
      refine wp_getg rfl h.1 (by decide) rfl ?_
      refine wp_step rfl rfl ?_
      refine wp_lald rfl (by decide) hK.2.1 (am_in_nI (by omega) (by decide)) ?_
      rw [nI_clamp (by omega)]
      rw [hA.2.1]
      refine wp_step rfl rfl ?_
      rw [lN_i]
      refine wp_step rfl rfl ?_
      show wp X (d + 6) 107 38 [some (.ref 408), some (.int (nI D)), some (.int (nI s)), y3] [] S Q
      refine wp_step rfl rfl ?_
      refine wp_getg rfl h.1 (by decide) rfl ?_
      refine wp_step rfl rfl ?_
      refine wp_ald rfl (Or.inl ⟨rfl, rfl⟩) (by decide) hK.2.2 (am_in_nI (by omega) (by decide)) ?_
      rw [nI_clamp (by omega)]
      rw [hA.2.2]
      refine wp_step rfl rfl ?_
      show wp X (d + 6) 107 45 [some (.ref 408), some (.int (nI D)), some (.int (nI s)), some (.int (nI f))] [] S Q
      refine wp_step rfl rfl ?_
      refine wp_getg rfl h.1 (by decide) rfl ?_
      iterate 2 refine wp_step rfl rfl ?_
      refine wp_ald rfl (Or.inl ⟨rfl, rfl⟩) (by decide) hK.2.2 (am_in_nI (by omega) (by decide)) ?_
      rw [nI_clamp (by omega)]
      rw [hA.2.2]
      iterate 2 refine wp_step rfl rfl ?_
      rw [show nI f + Int32.ofInt 1 = nI (f + 1) from nI_add f 1]
      refine wp_ast rfl (Or.inl ⟨rfl, rfl⟩) hK.2.2 (am_in_nI (by omega) (by decide)) ?_
      rw [nI_clamp (by omega)]
      rw [show vp_nar (am_ty 0) (nI (f + 1)) = nI (f + 1) from rfl]
      have hK1 := mSk_7 hK (upd K.2.2 D (nI (f + 1)))
      have hf1 : fr [408, 425, 426, 427] S (am_upd S 427 (iA 40 (upd K.2.2 D (nI (f + 1))))) := fr_up (by simp)
      have hf1' : fr [427] S (am_upd S 427 (iA 40 (upd K.2.2 D (nI (f + 1))))) := fr_up (by simp)
      generalize am_upd S 427 (iA 40 (upd K.2.2 D (nI (f + 1)))) = S1 at hK1 hf1 hf1' ⊢
      have h1 := mR_fr h hf1' (by decide) (by decide)
      have hM1 := mTa_fr hM hf1' (fun j hj => by simp only [List.mem_cons, List.not_mem_nil, or_false] at hj; omega)
      iterate 2 refine wp_step rfl rfl ?_
      refine wp_getg rfl h1.1 (by decide) rfl ?_
      refine wp_step rfl rfl ?_
      refine wp_ald rfl (Or.inl ⟨rfl, rfl⟩) (by decide) hM1.2.2.2.2.1 (am_in_nI (by omega) (by decide)) ?_
      rw [nI_clamp (by omega)]
      rw [hFs.1]
      refine wp_icmp rfl (fun c1 => ?_) (fun c1 => ?_)
      · replace c1 := n_ne_t (a := f) (b := fs.length) (by omega) (by omega) c1
        omega
      · replace c1 := n_ne_f (a := f) (b := fs.length) (by omega) (by omega) c1
        iterate 2 refine wp_step rfl rfl ?_
        refine wp_getg (v := (.int (nI (D + 1)))) rfl h1.1 (by decide) (congrArg Value.int h29) ?_
        iterate 2 refine wp_step rfl rfl ?_
        rw [show nI (D + 1) - Int32.ofInt 1 = nI D from nI_pred D]
        refine wp_putg rfl h1.1 (by decide) rfl rfl ?_
        rw [mkG_i rfl]
        iterate 3 refine wp_step rfl rfl ?_
        have e9 : fs.drop f = [] := by rw [List.drop_eq_nil_iff]; omega
        exact (hret p n _ _ _ (by rw [e9]; rfl) (fr_trans hf1 (fr_up (by simp))) (gf_up (gf_refl _ _) (by simp)) ⟨am_get_self h1.1, mBy_fr h1.2.1 (fr_up (js := [408]) (by simp)) (by decide), (pk_un (by decide)).trans h.2.2.1, (pk_un (by decide)).trans h.2.2.2.1, (pk_un (by decide)).trans h.2.2.2.2.1, (pk_un (by decide)).trans h.2.2.2.2.2.1, h.2.2.2.2.2.2⟩ pk_us (mSk_fr hK1 (fr_up (js := [408]) (by simp)) (fun j hj => by simp at hj; omega)) (fun j hj => ⟨rfl, rfl, pk_un (by omega)⟩) ⟨fun e => ⟨(pk_un (by decide)).trans (hV.1 e).1, (pk_un (by decide)).trans (hV.1 e).2.1, (hV.1 e).2.2⟩, fun e => (pk_un (by decide)).trans (hV.2 e)⟩) _ _ _
  | succ m ihm =>
    intro f p n K S I hfm h h29 hK hA hV h20 hM hret hbad
    intro y1 y2 y3
    refine wp_step rfl rfl ?_
    refine wp_getg (v := (.int (nI (D + 1)))) rfl h.1 (by decide) (congrArg Value.int h29) ?_
    refine wp_if rfl (fun c0 => ?_) (fun c0 => ?_)
    · replace c0 := z_le_t (a := D + 1) (by omega) c0
      omega
    · replace c0 := z_le_f (a := D + 1) (by omega) c0
      refine wp_step rfl rfl ?_
      refine wp_getg (v := (.int 0)) rfl h.1 (by decide) (congrArg Value.int h.2.2.2.2.2.1) ?_
      refine wp_if_f rfl rfl ?_
      refine wp_step rfl rfl ?_
      refine wp_getg (v := (.int (nI (D + 1)))) rfl h.1 (by decide) (congrArg Value.int h29) ?_
      iterate 2 refine wp_step rfl rfl ?_
      rw [show nI (D + 1) - Int32.ofInt 1 = nI D from nI_pred D]
      refine wp_step rfl rfl ?_
      show wp X (d + 6) 107 21 [some (.ref 408), some (.int (nI D)), y2, y3] [] S Q
      refine wp_step rfl rfl ?_
      refine wp_getg rfl h.1 (by decide) rfl ?_
      refine wp_step rfl rfl ?_
      refine wp_ald rfl (Or.inl ⟨rfl, rfl⟩) (by decide) hK.1 (am_in_nI (by omega) (by decide)) ?_
      rw [nI_clamp (by omega)]
      rw [hA.1]
      refine wp_if_f rfl rfl ?_
      refine wp_step rfl rfl ?_
      refine wp_getg rfl h.1 (by decide) rfl ?_
      refine wp_step rfl rfl ?_
      refine wp_lald rfl (by decide) hK.2.1 (am_in_nI (by omega) (by decide)) ?_
      rw [nI_clamp (by omega)]
      rw [hA.2.1]
      refine wp_step rfl rfl ?_
      rw [lN_i]
      refine wp_step rfl rfl ?_
      show wp X (d + 6) 107 38 [some (.ref 408), some (.int (nI D)), some (.int (nI s)), y3] [] S Q
      refine wp_step rfl rfl ?_
      refine wp_getg rfl h.1 (by decide) rfl ?_
      refine wp_step rfl rfl ?_
      refine wp_ald rfl (Or.inl ⟨rfl, rfl⟩) (by decide) hK.2.2 (am_in_nI (by omega) (by decide)) ?_
      rw [nI_clamp (by omega)]
      rw [hA.2.2]
      refine wp_step rfl rfl ?_
      show wp X (d + 6) 107 45 [some (.ref 408), some (.int (nI D)), some (.int (nI s)), some (.int (nI f))] [] S Q
      refine wp_step rfl rfl ?_
      refine wp_getg rfl h.1 (by decide) rfl ?_
      iterate 2 refine wp_step rfl rfl ?_
      refine wp_ald rfl (Or.inl ⟨rfl, rfl⟩) (by decide) hK.2.2 (am_in_nI (by omega) (by decide)) ?_
      rw [nI_clamp (by omega)]
      rw [hA.2.2]
      iterate 2 refine wp_step rfl rfl ?_
      rw [show nI f + Int32.ofInt 1 = nI (f + 1) from nI_add f 1]
      refine wp_ast rfl (Or.inl ⟨rfl, rfl⟩) hK.2.2 (am_in_nI (by omega) (by decide)) ?_
      rw [nI_clamp (by omega)]
      rw [show vp_nar (am_ty 0) (nI (f + 1)) = nI (f + 1) from rfl]
      have hK1 := mSk_7 hK (upd K.2.2 D (nI (f + 1)))
      have hf1 : fr [408, 425, 426, 427] S (am_upd S 427 (iA 40 (upd K.2.2 D (nI (f + 1))))) := fr_up (by simp)
      have hf1' : fr [427] S (am_upd S 427 (iA 40 (upd K.2.2 D (nI (f + 1))))) := fr_up (by simp)
      generalize am_upd S 427 (iA 40 (upd K.2.2 D (nI (f + 1)))) = S1 at hK1 hf1 hf1' ⊢
      have h1 := mR_fr h hf1' (by decide) (by decide)
      have hM1 := mTa_fr hM hf1' (fun j hj => by simp only [List.mem_cons, List.not_mem_nil, or_false] at hj; omega)
      iterate 2 refine wp_step rfl rfl ?_
      refine wp_getg rfl h1.1 (by decide) rfl ?_
      refine wp_step rfl rfl ?_
      refine wp_ald rfl (Or.inl ⟨rfl, rfl⟩) (by decide) hM1.2.2.2.2.1 (am_in_nI (by omega) (by decide)) ?_
      rw [nI_clamp (by omega)]
      rw [hFs.1]
      refine wp_icmp rfl (fun c1 => ?_) (fun c1 => ?_)
      · replace c1 := n_ne_t (a := f) (b := fs.length) (by omega) (by omega) c1
        have hfl : f < fs.length := by omega
        obtain ⟨y, hy⟩ : ∃ y, fs[f]? = some y := ⟨_, List.getElem?_eq_getElem hfl⟩
        have hyF := hFs.2 f y hy
        have hyo := hfo y (mem_at hy)
        have hdr : fs.drop f = y :: fs.drop (f + 1) := by
          rw [List.drop_eq_getElem_cons hfl]
          rw [List.getElem?_eq_getElem hfl] at hy
          cases hy
          rfl
        iterate 2 refine wp_step rfl rfl ?_
        refine wp_getg rfl h1.1 (by decide) rfl ?_
        iterate 5 refine wp_step rfl rfl ?_
        rw [show (Int8.ofInt 8).toInt32 * nI s = nI (8 * s) from pk_mul 8 s, nI_add]
        refine wp_lald rfl (by decide) hM1.2.2.2.2.2.2.1 (am_in_nI (by omega) (by decide)) ?_
        rw [nI_clamp (by omega)]
        rw [hyF.2.1]
        refine wp_step rfl rfl ?_
        refine wp_getg rfl h1.1 (by decide) rfl ?_
        iterate 5 refine wp_step rfl rfl ?_
        rw [show (Int8.ofInt 8).toInt32 * nI s = nI (8 * s) from pk_mul 8 s, nI_add]
        refine wp_ald rfl (Or.inl ⟨rfl, rfl⟩) (by decide) hM1.2.2.2.2.2.2.2 (am_in_nI (by omega) (by decide)) ?_
        rw [nI_clamp (by omega)]
        rw [hyF.2.2]
        refine wp_c0 rfl rfl (by decide) rfl (recv_ok h1.1 rfl) rfl (ev_conv (ih y.2.1 y.2.2 p n (D + 1) _ S1 I Q hyo.1 hyo.2.1 hyo.2.2 (by omega) h1 h29 hK1 hV h20 hM1 (fun p1 n1 T J K1 e1 hf2 hg2 h2 h292 hK2 ha2 hV2 => ?_) (fun k pl T J K1 e1 hf2 hg2 h2 hK2 hq2 hq3 => ?_)) (fun r hr => ?_))
        · have hD2 := ha2 D (by omega)
          have ha0 : agK K (K.1, K.2.1, upd K.2.2 D (nI (f + 1))) D := fun j hj => ⟨rfl, rfl, pk_un (by omega)⟩
          refine ihm (f + 1) p1 n1 K1 T J (by omega) h2 h292 hK2 ⟨hD2.1.trans hA.1, hD2.2.1.trans hA.2.1, hD2.2.2.trans pk_us⟩ hV2 ((hg2 20 (by decide)).trans h20) (mTa_fr hM1 hf2 (fun j hj => by simp only [List.mem_cons, List.not_mem_nil, or_false] at hj; omega)) (fun p2 n2 T2 J2 K3 e2 hf3 hg3 h3 h293 hK3 ha3 hV3 => ?_) (fun k pl T2 J2 K3 e2 hf3 hg3 h3 hK3 hq4 hq5 => ?_)
          · exact hret p2 n2 T2 J2 K3 (by rw [hdr]; unfold fjs; rw [List.map_cons]; unfold rvs; rw [e1]; exact e2) (fr_trans hf1 (fr_trans hf2 hf3)) (gf_trans hg2 hg3) h3 h293 hK3 (agK_trans (agK_trans ha0 ha2 (by omega)) ha3 (Nat.le_refl _)) hV3
          · exact hbad k pl T2 J2 K3 (by rw [hdr]; unfold fjs; rw [List.map_cons]; unfold rvs; rw [e1]; exact e2) (fr_trans hf1 (fr_trans hf2 hf3)) (gf_trans (gf_mono hg2 (fun j hj => by simp only [List.mem_cons, List.not_mem_nil, or_false] at hj ⊢; omega)) hg3) h3 hK3 hq4 hq5
        · exact hbad k pl T J K1 (by rw [hdr]; unfold fjs; rw [List.map_cons]; unfold rvs; rw [e1]) (fr_trans hf1 hf2) hg2 h2 hK2 hq2 hq3
        · obtain ⟨T, rfl, -, hF⟩ := hr
          show wp X (d + 6) 107 104 _ [] T Q
          iterate 2 refine wp_step rfl rfl ?_
          exact hF _ _ _
      · replace c1 := n_ne_f (a := f) (b := fs.length) (by omega) (by omega) c1
        omega
theorem BF_0 : BF X d st li b w lim sl τ M chk 0 := fun ty fl p n D K S I Q _ _ hsf => hsf.elim
set_option maxHeartbeats 4000000 in
theorem BF_s {h : Nat} (hb : ∀ j, b j < 256) (hwf : wfT τ) (hfh : fht τ) (hT : mTy M sl τ) (hsl : sl < 8) (ih : BF X d st li b w lim sl τ M chk h) : BF X d st li b w lim sl τ M chk (h + 1) := by
  intro ty fl p n D K S I Q hkn hfl hsf hDh hr h29 hK hV h20 hM hret hbad
  refine ev_wp (L0 := [some (.ref 408), some (.long (lN ty)), none, some (.int (nI fl)), none]) (Nat.le_of_ble_eq_true rfl) rfl ?_
  have hty : ty < 2 ^ 31 := by unfold knM at hkn; omega
  have hk9 := hr.2.2.2.2.2.2
  refine wp_step rfl rfl ?_
  refine wp_c0 rfl rfl (by decide) rfl (recv_ok hr.1 rfl) rfl (q_mcounted hr hV (fun T1 J1 hc hf1 hg1 h1 hV1 => ?_) (fun T1 J1 hc hf1 hg1 h1 hq1 => ?_))
  · have cn : ¬ (chk = true ∧ 1200 < n) := fun h9 => hc h9.1 h9.2
    have h291 : J1 29 = nI D := (hg1 29 (by decide)).trans h29
    have h201 : J1 20 = nI sl := (hg1 20 (by decide)).trans h20
    have hK1 := mSk_fr hK hf1 (fun j hj => by simp only [List.mem_cons, List.not_mem_nil, or_false] at hj; omega)
    have hM1 := mTa_fr hM hf1 (fun j hj => by simp only [List.mem_cons, List.not_mem_nil, or_false] at hj; omega)
    have hf1J : fr [408, 425, 426, 427] S T1 := fr_mono hf1 (fun j hj => by simp only [List.mem_cons, List.not_mem_nil, or_false] at hj ⊢; omega)
    refine wp_step rfl rfl ?_
    refine wp_getg (v := (.int 0)) rfl h1.1 (by decide) (congrArg Value.int h1.2.2.2.2.2.1) ?_
    refine wp_if_t rfl rfl ?_
    iterate 3 refine wp_step rfl rfl ?_
    rw [fl_and2 (by omega)]
    refine wp_if rfl (fun c0 => ?_) (fun c0 => ?_)
    · replace c0 := z_eq_t (a := fl / 2 * 2) (by omega) c0
      iterate 3 refine wp_step rfl rfl ?_
      rw [fl_and1 (by omega)]
      refine wp_if rfl (fun c1 => ?_) (fun c1 => ?_)
      · replace c1 := z_eq_t (a := fl % 2) (by omega) c1
        have hfl0 : fl = 0 := by omega
        iterate 3 refine wp_step rfl rfl ?_
        refine wp_if rfl (fun c2 => ?_) (fun c2 => ?_)
        · replace c2 := l_gt_t c2
          have hty10 : 10 < ty := (lN_lt (by decide) hty).mp c2
          obtain ⟨t, x, ht, hx, hx0⟩ : ∃ t x, tix τ ty = some t ∧ τ[t]? = some x ∧ x.2.2.1 = 0 := by
            rcases hkn with h9 | h9
            · omega
            · exact h9.2.2
          have htl := (wf_ty hwf hx).2
          have hwl := hwf.1
          have hxk := (wf_ty hwf hx).1
          unfold tyOK at hxk
          iterate 5 refine wp_step rfl rfl ?_
          refine wp_c0 rfl rfl (by decide) rfl (recv_ok h1.1 rfl) rfl (q_mtypeOf (kd := some 0) h1.1 h201 hM1 hT hsl hwf.1 hty (fun k hk => by cases hk; decide) (fun i z hz => by have := (wf_ty hwf hz).1; unfold tyOK at this; omega) ?_)
          rw [show tof τ ty (some 0) = some t from tixk_of hwf ht hx hx0]
          unfold mO
          dsimp only
          refine wp_step rfl rfl ?_
          rw [nI_l (by omega)]
          refine wp_step rfl rfl ?_
          refine wp_c0 rfl rfl (by decide) rfl (recv_ok h1.1 rfl) rfl (q_mpush h1.1 h291 (by omega) hK1 (fun T3 hf3 h3 hK3 => ?_))
          refine wp_vret rfl rfl ⟨T3, rfl, ⟨_, _, _, h3⟩, ?_⟩
          have hg3 : gf [21, 24, 29] I (upd J1 29 (nI (D + 1))) := gf_up (gf_mono hg1 (fun j hj => by simp only [List.mem_cons, List.not_mem_nil, or_false] at hj ⊢; omega)) (by simp)
          have hf3J := fr_trans hf1J hf3
          refine st_fin (s := 10 * sl + t) (fs := x.2.2.2) ih (by omega) (by omega) (hT.2 t x hx).2.2.2 (fun y hy => ?_) (by omega) x.2.2.2.length 0 p (n + 1) _ T3 _ (by omega) ⟨h3, mBy_fr h1.2.1 hf3 (by decide), (pk_un (by decide)).trans h1.2.2.1, (pk_un (by decide)).trans h1.2.2.2.1, (pk_un (by decide)).trans h1.2.2.2.2.1, (pk_un (by decide)).trans h1.2.2.2.2.2.1, h1.2.2.2.2.2.2⟩ pk_us hK3 ⟨pk_us, pk_uLs, pk_us⟩ ⟨fun e => ⟨(pk_un (by decide)).trans (hV1.1 e).1, (pk_un (by decide)).trans (hV1.1 e).2.1, (hV1.1 e).2.2⟩, fun e => (pk_un (by decide)).trans (hV1.2 e)⟩ ((hg3 20 (by decide)).trans h20) (mTa_fr hM1 hf3 (fun j hj => by simp only [List.mem_cons, List.not_mem_nil, or_false] at hj; omega)) (fun p' n' T J K' e3 hf4 hg4 h4 h294 hK4 ha4 hV4 => ?_) (fun k pl T J K' e3 hf4 hg4 h4 hK4 hq4 hq5 => ?_)
          · obtain ⟨f, hf⟩ := List.getElem?_of_mem hy
            have hyo := (wf_fd hwf hx hf).1
            unfold fdOK at hyo
            refine ⟨?_, by omega, hsf.2 hfl0 t x ht hx y hy⟩
            rcases hfh t x f y hx hf with g | ⟨u, z, g1, g2, g3, _⟩
            · exact Or.inl g
            · obtain ⟨z', m1, m2, _⟩ := tix_some g1
              have := (wf_ty hwf m1).1
              unfold tyOK at this
              exact Or.inr ⟨by omega, by omega, u, z, g1, g2, g3⟩
          · rw [List.drop_zero] at e3
            exact hret p' n' T J K' (by unfold rv; rw [if_neg cn, if_neg (by omega), if_neg (by omega), if_neg (by omega), if_neg (by omega), ht]; dsimp only; rw [hx]; exact e3) (fr_trans hf3J hf4) (gf_trans hg3 hg4) h4 h294 hK4 (agK_trans (fun j hj => ⟨pk_un (by omega), pk_uLn (by omega), pk_un (by omega)⟩) ha4 (Nat.le_refl _)) hV4
          · rw [List.drop_zero] at e3
            exact hbad k pl T J K' (by unfold rv; rw [if_neg cn, if_neg (by omega), if_neg (by omega), if_neg (by omega), if_neg (by omega), ht]; dsimp only; rw [hx]; exact e3) (fr_trans hf3J hf4) (gf_trans (gf_mono hg3 (fun j hj => by simp only [List.mem_cons, List.not_mem_nil, or_false] at hj ⊢; omega)) hg4) h4 hK4 hq4 hq5
        · replace c2 := l_gt_f c2
          have hty10 : ty ≤ 10 := by
            by_cases g : ty ≤ 10
            · exact g
            · exact absurd ((lN_lt (by decide) hty).mpr (show 10 < ty by omega)) c2
          have hty2 : 2 ≤ ty := by unfold knM at hkn; omega
          iterate 3 refine wp_step rfl rfl ?_
          rw [lN_i]
          by_cases c3 : ty = 10
          · rw [c3]
            refine wp_c0 rfl rfl (by decide) rfl (recv_ok h1.1 rfl) rfl (q_mplain10 hb h1 (fun tv q T2 J2 e2 hf2 hg2 h2 => ?_) (fun k pl T2 J2 e2 hf2 hg2 h2 hq2 => ?_))
            · refine wp_step rfl rfl ?_
              refine wp_vret rfl rfl ⟨T2, rfl, ⟨_, _, _, h2.1⟩, hret q (n + 1) T2 J2 K (by unfold rv; rw [if_neg cn, if_neg (by omega), if_neg (by omega), if_pos c3, e2]) (fr_trans hf1J (fr_mono hf2 (fun j hj => by simp only [List.mem_cons, List.not_mem_nil, or_false] at hj ⊢; omega))) (gf_trans (gf_mono hg1 (fun j hj => by simp only [List.mem_cons, List.not_mem_nil, or_false] at hj ⊢; omega)) (gf_mono hg2 (fun j hj => by simp only [List.mem_cons, List.not_mem_nil, or_false] at hj ⊢; omega))) h2 ((hg2 29 (by decide)).trans h291) (mSk_fr hK1 hf2 (fun j hj => by simp only [List.mem_cons, List.not_mem_nil, or_false] at hj; omega)) (agK_refl _ _) (mV_gf hV1 hg2 (by decide) (by decide))⟩
            · refine wp_step rfl rfl ?_
              refine wp_vret rfl rfl ⟨T2, rfl, ⟨_, _, _, h2.1⟩, hbad k pl T2 J2 K (by unfold rv; rw [if_neg cn, if_neg (by omega), if_neg (by omega), if_pos c3, e2]) (fr_trans hf1J (fr_mono hf2 (fun j hj => by simp only [List.mem_cons, List.not_mem_nil, or_false] at hj ⊢; omega))) (gf_trans (gf_mono hg1 (fun j hj => by simp only [List.mem_cons, List.not_mem_nil, or_false] at hj ⊢; omega)) (gf_mono hg2 (fun j hj => by simp only [List.mem_cons, List.not_mem_nil, or_false] at hj ⊢; omega))) h2 (mSk_fr hK1 hf2 (fun j hj => by simp only [List.mem_cons, List.not_mem_nil, or_false] at hj; omega)) hq2 ⟨D, (hg2 29 (by decide)).trans h291, by omega⟩⟩
          · refine wp_c0 rfl rfl (by decide) rfl (recv_ok h1.1 rfl) rfl (q_mplain hb h1 hty2 (by omega) (fun v q T2 J2 e2 hf2 hg2 h2 => ?_) (fun T2 J2 e2 hf2 hg2 h2 hq2 => ?_))
            · refine wp_step rfl rfl ?_
              refine wp_vret rfl rfl ⟨T2, rfl, ⟨_, _, _, h2.1⟩, hret q (n + 1) T2 J2 K (by unfold rv; rw [if_neg cn, if_neg (by omega), if_neg (by omega), if_neg c3, if_pos (by omega), e2]) (fr_trans hf1J (fr_mono hf2 (fun j hj => by simp only [List.mem_cons, List.not_mem_nil, or_false] at hj ⊢; omega))) (gf_trans (gf_mono hg1 (fun j hj => by simp only [List.mem_cons, List.not_mem_nil, or_false] at hj ⊢; omega)) (gf_mono hg2 (fun j hj => by simp only [List.mem_cons, List.not_mem_nil, or_false] at hj ⊢; omega))) h2 ((hg2 29 (by decide)).trans h291) (mSk_fr hK1 hf2 (fun j hj => by simp only [List.mem_cons, List.not_mem_nil, or_false] at hj; omega)) (agK_refl _ _) (mV_gf hV1 hg2 (by decide) (by decide))⟩
            · refine wp_step rfl rfl ?_
              refine wp_vret rfl rfl ⟨T2, rfl, ⟨_, _, _, h2.1⟩, hbad 2 p T2 J2 K (by unfold rv; rw [if_neg cn, if_neg (by omega), if_neg (by omega), if_neg c3, if_pos (by omega), e2]) (fr_trans hf1J (fr_mono hf2 (fun j hj => by simp only [List.mem_cons, List.not_mem_nil, or_false] at hj ⊢; omega))) (gf_trans (gf_mono hg1 (fun j hj => by simp only [List.mem_cons, List.not_mem_nil, or_false] at hj ⊢; omega)) (gf_mono hg2 (fun j hj => by simp only [List.mem_cons, List.not_mem_nil, or_false] at hj ⊢; omega))) h2 (mSk_fr hK1 hf2 (fun j hj => by simp only [List.mem_cons, List.not_mem_nil, or_false] at hj; omega)) hq2 ⟨D, (hg2 29 (by decide)).trans h291, by omega⟩⟩
      · replace c1 := z_eq_f (a := fl % 2) (by omega) c1
        refine wp_step rfl rfl ?_
        refine wp_c0 rfl rfl (by decide) rfl (recv_ok h1.1 rfl) rfl (q_mcomp hb h1 (fun v q T2 J2 e2 hf2 hg2 h2 => ?_) (fun v T2 J2 e2 hf2 hg2 h2 hq2 => ?_))
        · iterate 2 refine wp_step rfl rfl ?_
          refine wp_vret rfl rfl ⟨T2, rfl, ⟨_, _, _, h2.1⟩, hret q (n + 1) T2 J2 K (by unfold rv; rw [if_neg cn, if_neg (by omega), if_pos (by omega), e2]) (fr_trans hf1J (fr_mono hf2 (fun j hj => by simp only [List.mem_cons, List.not_mem_nil, or_false] at hj ⊢; omega))) (gf_trans (gf_mono hg1 (fun j hj => by simp only [List.mem_cons, List.not_mem_nil, or_false] at hj ⊢; omega)) (gf_mono hg2 (fun j hj => by simp only [List.mem_cons, List.not_mem_nil, or_false] at hj ⊢; omega))) h2 ((hg2 29 (by decide)).trans h291) (mSk_fr hK1 hf2 (fun j hj => by simp only [List.mem_cons, List.not_mem_nil, or_false] at hj; omega)) (agK_refl _ _) (mV_gf hV1 hg2 (by decide) (by decide))⟩
        · iterate 2 refine wp_step rfl rfl ?_
          refine wp_vret rfl rfl ⟨T2, rfl, ⟨_, _, _, h2.1⟩, hbad 2 p T2 J2 K (by unfold rv; rw [if_neg cn, if_neg (by omega), if_pos (by omega), e2]) (fr_trans hf1J (fr_mono hf2 (fun j hj => by simp only [List.mem_cons, List.not_mem_nil, or_false] at hj ⊢; omega))) (gf_trans (gf_mono hg1 (fun j hj => by simp only [List.mem_cons, List.not_mem_nil, or_false] at hj ⊢; omega)) (gf_mono hg2 (fun j hj => by simp only [List.mem_cons, List.not_mem_nil, or_false] at hj ⊢; omega))) h2 (mSk_fr hK1 hf2 (fun j hj => by simp only [List.mem_cons, List.not_mem_nil, or_false] at hj; omega)) hq2 ⟨D, (hg2 29 (by decide)).trans h291, by omega⟩⟩
    · replace c0 := z_eq_f (a := fl / 2 * 2) (by omega) c0
      refine wp_step rfl rfl ?_
      refine wp_c0 rfl rfl (by decide) rfl (recv_ok h1.1 rfl) rfl (q_msmall hb h1 (fun len q T2 J2 e2 hf2 hg2 h2 => ?_) (fun T2 J2 e2 hf2 hg2 h2 hq2 => ?_))
      · have hcl := cnt_lt e2
        iterate 7 refine wp_step rfl rfl ?_
        rw [fl_and1 (by omega)]
        refine wp_c0 rfl rfl (by decide) rfl (recv_ok h2.1 rfl) rfl (q_mpush h2.1 ((hg2 29 (by decide)).trans h291) (by omega) (mSk_fr hK1 hf2 (fun j hj => by simp only [List.mem_cons, List.not_mem_nil, or_false] at hj; omega)) (fun T3 hf3 h3 hK3 => ?_))
        refine wp_step rfl rfl ?_
        refine wp_vret rfl rfl ⟨T3, rfl, ⟨_, _, _, h3⟩, ?_⟩
        have hg3 : gf [21, 24, 29] I (upd J2 29 (nI (D + 1))) := gf_up (gf_trans (gf_mono hg1 (fun j hj => by simp only [List.mem_cons, List.not_mem_nil, or_false] at hj ⊢; omega)) (gf_mono hg2 (fun j hj => by simp only [List.mem_cons, List.not_mem_nil, or_false] at hj ⊢; omega))) (by simp)
        have hf3J := fr_trans hf1J (fr_trans (fr_mono (ks := [408, 425, 426, 427]) hf2 (fun j hj => by simp only [List.mem_cons, List.not_mem_nil, or_false] at hj ⊢; omega)) hf3)
        refine ar_fin (f1 := fl % 2) ih hkn (by omega) (fun _ => hsf.1 (by omega)) (by omega) len hcl.1 q (n + 1) _ T3 _ ⟨h3, mBy_fr h2.2.1 hf3 (by decide), (pk_un (by decide)).trans h2.2.2.1, (pk_un (by decide)).trans h2.2.2.2.1, (pk_un (by decide)).trans h2.2.2.2.2.1, (pk_un (by decide)).trans h2.2.2.2.2.2.1, h2.2.2.2.2.2.2⟩ pk_us hK3 ⟨pk_us, pk_uLs, pk_us⟩ ⟨fun e => ⟨(pk_un (by decide)).trans ((hg2 23 (by decide)).trans (hV1.1 e).1), (pk_un (by decide)).trans ((hg2 24 (by decide)).trans (hV1.1 e).2.1), (hV1.1 e).2.2⟩, fun e => (pk_un (by decide)).trans ((hg2 23 (by decide)).trans (hV1.2 e))⟩ ((hg3 20 (by decide)).trans h20) (mTa_fr (mTa_fr hM1 hf2 (fun j hj => by simp only [List.mem_cons, List.not_mem_nil, or_false] at hj; omega)) hf3 (fun j hj => by simp only [List.mem_cons, List.not_mem_nil, or_false] at hj; omega)) (fun p' n' T J K' e3 hf4 hg4 h4 h294 hK4 ha4 hV4 => ?_) (fun k pl T J K' e3 hf4 hg4 h4 hK4 hq4 hq5 => ?_)
        · exact hret p' n' T J K' (by unfold rv; rw [if_neg cn, if_pos (by omega), e2]; exact e3) (fr_trans hf3J hf4) (gf_trans hg3 hg4) h4 h294 hK4 (agK_trans (fun j hj => ⟨pk_un (by omega), pk_uLn (by omega), pk_un (by omega)⟩) ha4 (Nat.le_refl _)) hV4
        · exact hbad k pl T J K' (by unfold rv; rw [if_neg cn, if_pos (by omega), e2]; exact e3) (fr_trans hf3J hf4) (gf_trans (gf_mono hg3 (fun j hj => by simp only [List.mem_cons, List.not_mem_nil, or_false] at hj ⊢; omega)) hg4) h4 hK4 hq4 hq5
      · iterate 7 refine wp_step rfl rfl ?_
        rw [fl_and1 (by omega)]
        refine wp_c0 rfl rfl (by decide) rfl (recv_ok h2.1 rfl) rfl (q_mpush h2.1 ((hg2 29 (by decide)).trans h291) (by omega) (mSk_fr hK1 hf2 (fun j hj => by simp only [List.mem_cons, List.not_mem_nil, or_false] at hj; omega)) (fun T3 hf3 h3 hK3 => ?_))
        refine wp_step rfl rfl ?_
        refine wp_vret rfl rfl ⟨T3, rfl, ⟨_, _, _, h3⟩, hbad 2 p T3 _ _ (by unfold rv; rw [if_neg cn, if_pos (by omega), e2]) (fr_trans hf1J (fr_trans (fr_mono hf2 (fun j hj => by simp only [List.mem_cons, List.not_mem_nil, or_false] at hj ⊢; omega)) hf3)) (gf_up (gf_trans (gf_mono hg1 (fun j hj => by simp only [List.mem_cons, List.not_mem_nil, or_false] at hj ⊢; omega)) (gf_mono hg2 (fun j hj => by simp only [List.mem_cons, List.not_mem_nil, or_false] at hj ⊢; omega))) (by simp)) ⟨h3, (pk_un (by decide)).trans h2.2.1, h2.2.2.1, (pk_un (by decide)).trans h2.2.2.2⟩ hK3 (by obtain ⟨q, hq⟩ := hq2; exact ⟨q, (pk_un (by decide)).trans hq⟩) ⟨D + 1, pk_us, by omega⟩⟩
  · refine wp_step rfl rfl ?_
    refine wp_getg (v := (.int 8)) rfl h1.1 (by decide) (congrArg Value.int h1.2.1) ?_
    refine wp_if_f rfl rfl ?_
    refine wp_vret rfl rfl ⟨T1, rfl, ⟨_, _, _, h1.1⟩, hbad 8 p T1 J1 K (by unfold rv; rw [if_pos hc]) (fr_mono hf1 (fun j hj => by simp only [List.mem_cons, List.not_mem_nil, or_false] at hj ⊢; omega)) (gf_mono hg1 (fun j hj => by simp only [List.mem_cons, List.not_mem_nil, or_false] at hj ⊢; omega)) h1 (mSk_fr hK hf1 (fun j hj => by simp only [List.mem_cons, List.not_mem_nil, or_false] at hj; omega)) hq1 ⟨D, (hg1 29 (by decide)).trans h29, by omega⟩⟩
theorem BF_all (hb : ∀ j, b j < 256) (hwf : wfT τ) (hfh : fht τ) (hT : mTy M sl τ) (hsl : sl < 8) : ∀ h, BF X d st li b w lim sl τ M chk h := by
  intro h
  induction h with
  | zero => exact BF_0
  | succ h ih => exact BF_s hb hwf hfh hT hsl ih
end MPASS2
