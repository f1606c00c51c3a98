/-! THE MODEL: select, misfit, selected -/
section MSELECT2
variable {X : Nat × (Nat → Int32)} {d : Nat} {Q : am_R → Prop} {b : Nat → Nat} {v tot : Nat} {re : jRe} {M : jMT} {E : jME} {C : jMC}
set_option maxHeartbeats 1000000 in
theorem ms_loop {P : jFA} {nm : Nat} {cm : List jC} {zs : List Nat} {fb : Bool} (hb : ∀ j, b j < 256) (hR : reQ b tot re) (hP : evP b tot re) (hE : evR b tot re) (hz60 : zs.length ≤ 60) (hze : ∀ e, e ∈ zs → e < re.2.1.length) : ∀ (m i : Nat) (L0 : List Nat) (ch : Nat → Int32) (S : am_S) (I : Nat → Int32) (st li : Int64) (K : jMK) (x5 : Option Value), i + m = zs.length → L0.length ≤ i → mRc S I st li b v tot re M E C K → flM S I P nm cm → am_get S 432 = some (iA 60 ch) → chD ch L0 → (∀ j e, i ≤ j → zs[j]? = some e → (fb = true → e = j) ∧ (fb = false → ch j = nI e)) → (∀ L' ch' T J st' li' K', L' = L0 ++ (zs.drop i).filter (psI b tot re nm cm) → fr [408, 425, 426, 427, 432] S T → gf [19, 20, 21, 22, 24, 29, 33, 35, 36, 57] I J → mRc T J st' li' b v tot re M E C K' → am_get T 432 = some (iA 60 ch') → chD ch' L' → ∀ y5, wp X (d + 15) 152 107 [some (.ref 408), some (.int (bI fb)), some (.int (nI zs.length)), some (.int (nI L'.length)), some (.int (nI zs.length)), y5] [] T Q) → wp X (d + 15) 152 57 [some (.ref 408), some (.int (bI fb)), some (.int (nI zs.length)), some (.int (nI L0.length)), some (.int (nI i)), x5] [] S Q := by
  intro m
  induction m with
  | zero =>
    intro i L0 ch S I st li K x5 him hLi h hF hch hL hz hq
    obtain rfl : i = zs.length := by omega
    iterate 2 refine wp_step rfl rfl ?_
    refine wp_icmp rfl (fun c0 => ?_) (fun c0 => ?_)
    · replace c0 := n_ge_t (a := zs.length) (b := zs.length) (by omega) (by omega) c0
      exact hq L0 ch S I st li K (by rw [List.drop_eq_nil_of_le (Nat.le_refl _)]; simp) (fr_refl _ _) (gf_refl _ _) h hch hL x5
    · replace c0 := n_ge_f (a := zs.length) (b := zs.length) (by omega) (by omega) c0
      omega
  | succ m ih =>
    intro i L0 ch S I st li K x5 him hLi h hF hch hL hz hq
    iterate 2 refine wp_step rfl rfl ?_
    refine wp_icmp rfl (fun c0 => ?_) (fun c0 => ?_)
    · replace c0 := n_ge_t (a := i) (b := zs.length) (by omega) (by omega) c0
      omega
    · replace c0 := n_ge_f (a := i) (b := zs.length) (by omega) (by omega) c0
      have hil : i < zs.length := by omega
      have hxi : zs[i]? = some zs[i] := List.getElem?_eq_getElem hil
      have hdr : zs.drop i = zs[i] :: zs.drop (i + 1) := List.drop_eq_getElem_cons hil
      have hel := hze zs[i] (List.getElem_mem hil)
      obtain ⟨hz1, hz2⟩ := hz i zs[i] (Nat.le_refl _) hxi
      generalize zs[i] = e at hxi hdr hel hz1 hz2
      have hye : re.2.1[e]? = some re.2.1[e] := List.getElem?_eq_getElem hel
      generalize re.2.1[e] = y at hye
      have hpe : psI b tot re nm cm e = psE b tot re nm cm y := by unfold psI; rw [hye]
      have hev60 := h.2.2.2.2.2.2.2.2.2.2.2.2.1
      have go : wp X (d + 15) 152 79 [some (.ref 408), some (.int (bI fb)), some (.int (nI zs.length)), some (.int (nI L0.length)), some (.int (nI i)), x5] [.int (nI e)] S Q := by
        refine wp_step rfl rfl ?_
        show wp X (d + 15) 152 81 [some (.ref 408), some (.int (bI fb)), some (.int (nI zs.length)), some (.int (nI L0.length)), some (.int (nI i)), some (.int (nI e))] [] S Q
        iterate 2 refine wp_step rfl rfl ?_
        refine wp_c0 rfl rfl (by decide) rfl (recv_ok h.1 rfl) rfl (q_mpasses hb hR hP hE h hF hye (fun T J st2 li2 K2 hf2 hg2 h2 => ?_))
        have hF2 := flM_up hF hf2 (by decide) hg2 (by decide) (by decide)
        have hch2 : am_get T 432 = some (iA 60 ch) := by rw [fr_get hf2 (by decide)]; exact hch
        have hf02 : fr [408, 425, 426, 427, 432] S T := fr_mono hf2 (fun j hj => by simp only [List.mem_cons, List.not_mem_nil, or_false] at hj ⊢; omega)
        cases ep : psE b tot re nm cm y with
        | false =>
          show wp X (d + 15) 152 87 [some (.ref 408), some (.int (bI fb)), some (.int (nI zs.length)), some (.int (nI L0.length)), some (.int (nI i)), some (.int (nI e))] [.int 0] T Q
          refine wp_if_t rfl rfl ?_
          iterate 2 refine wp_step rfl rfl ?_
          rw [show nI i + Int32.ofInt 1 = nI (i + 1) from nI_add i 1]
          exact ih (i + 1) L0 ch T J st2 li2 K2 _ (by omega) (by omega) h2 hF2 hch2 hL (fun j e9 hj he => hz j e9 (by omega) he) (fun L' ch' T3 J3 st3 li3 K3 a1 a2 a3 a4 a5 a6 => hq L' ch' T3 J3 st3 li3 K3 (by rw [a1, hdr, List.filter_cons_of_neg (by rw [hpe, ep]; decide)]) (fr_trans hf02 a2) (gf_trans hg2 a3) a4 a5 a6)
        | true =>
          show wp X (d + 15) 152 87 [some (.ref 408), some (.int (bI fb)), some (.int (nI zs.length)), some (.int (nI L0.length)), some (.int (nI i)), some (.int (nI e))] [.int 1] T Q
          refine wp_if_f rfl rfl ?_
          refine wp_step rfl rfl ?_
          refine wp_getg rfl h2.1 (by decide) rfl ?_
          iterate 2 refine wp_step rfl rfl ?_
          refine wp_ast rfl (Or.inl ⟨rfl, rfl⟩) hch2 (am_in_nI (by omega) (by decide)) ?_
          rw [nI_clamp (by omega)]
          rw [show vp_nar (am_ty 0) (nI e) = nI e from rfl]
          have h3 : am_get (am_upd T 432 (iA 60 (upd ch L0.length (nI e)))) 432 = some (iA 60 (upd ch L0.length (nI e))) := am_get_self hch2
          have hf3 : fr [432] T (am_upd T 432 (iA 60 (upd ch L0.length (nI e)))) := fr_up (by simp)
          generalize am_upd T 432 (iA 60 (upd ch L0.length (nI e))) = T3 at h3 hf3 ⊢
          have h23 : mRc T3 J st2 li2 b v tot re M E C K2 := mRc_up (ks := []) h2 hf3 (fun j hj => by simp only [List.mem_cons, List.not_mem_nil, or_false] at hj; omega) (by rw [fr_get hf3 (by decide)]; exact h2.1) (gf_refl _ _) (by decide) (by decide) (by decide) (mSk_fr h2.2.2.2.2.2.2.2.2.2.2.2.2.2.2.2.2 hf3 (fun j hj => by simp only [List.mem_cons, List.not_mem_nil, or_false] at hj; omega))
          have hF3 := flM_up (ks := []) hF2 hf3 (by decide) (gf_refl _ _) (by decide) (by decide)
          have hlen : (L0 ++ [e]).length = L0.length + 1 := by simp
          have hL3 : chD (upd ch L0.length (nI e)) (L0 ++ [e]) := by
            intro j x hj
            by_cases c : j < L0.length
            · rw [List.getElem?_append_left c] at hj
              rw [pk_un (by omega)]
              exact hL j x hj
            · have hj2 := (List.getElem?_eq_some_iff.mp hj).1
              rw [hlen] at hj2
              obtain rfl : j = L0.length := by omega
              rw [List.getElem?_append_right (Nat.le_refl _), Nat.sub_self] at hj
              cases hj
              exact pk_us
          iterate 3 refine wp_step rfl rfl ?_
          rw [show nI L0.length + Int32.ofInt 1 = nI (L0 ++ [e]).length from by rw [hlen]; exact nI_add L0.length 1, show nI i + Int32.ofInt 1 = nI (i + 1) from nI_add i 1]
          exact ih (i + 1) (L0 ++ [e]) (upd ch L0.length (nI e)) T3 J st2 li2 K2 _ (by omega) (by rw [hlen]; omega) h23 hF3 h3 hL3 (fun j e9 hj he => ⟨(hz j e9 (by omega) he).1, fun hf => by rw [pk_un (by omega)]; exact (hz j e9 (by omega) he).2 hf⟩) (fun L' ch' T4 J4 st4 li4 K4 a1 a2 a3 a4 a5 a6 => hq L' ch' T4 J4 st4 li4 K4 (by rw [a1, hdr, List.filter_cons_of_pos (by rw [hpe, ep]), List.append_assoc]; rfl) (fr_trans hf02 (fr_trans (fr_mono hf3 (fun j hj => by simp only [List.mem_cons, List.not_mem_nil, or_false] at hj ⊢; omega)) a2)) (gf_trans hg2 a3) a4 a5 a6)
      cases fb with
      | false =>
        show wp X (d + 15) 152 63 [some (.ref 408), some (.int (bI false)), some (.int (nI zs.length)), some (.int (nI L0.length)), some (.int (nI i)), x5] [] S Q
        refine wp_step rfl rfl ?_
        refine wp_if_t rfl rfl ?_
        refine wp_step rfl rfl ?_
        refine wp_getg rfl h.1 (by decide) rfl ?_
        refine wp_step rfl rfl ?_
        refine wp_ald rfl (Or.inl ⟨rfl, rfl⟩) (by decide) hch (am_in_nI (by omega) (by decide)) ?_
        rw [nI_clamp (by omega)]
        rw [hz2 rfl]
        exact go
      | true =>
        show wp X (d + 15) 152 63 [some (.ref 408), some (.int (bI true)), some (.int (nI zs.length)), some (.int (nI L0.length)), some (.int (nI i)), x5] [] S Q
        refine wp_step rfl rfl ?_
        refine wp_if_f rfl rfl ?_
        iterate 2 refine wp_step rfl rfl ?_
        obtain rfl := hz1 rfl
        exact go
set_option maxHeartbeats 2000000 in
theorem q_mselect {S : am_S} {I : Nat → Int32} {st li : Int64} {K : jMK} {cs xs : List Nat} {ch : Nat → Int32} {fb : Bool} (hb : ∀ j, b j < 256) (hR : reQ b tot re) (hP : evP b tot re) (hE : evR b tot re) (h : mRc S I st li b v tot re M E C K) (hW : cmW S I st li cs) (h45 : I 45 = nI xs.length) (hch : am_get S 432 = some (iA 60 ch)) (hxs : chD ch xs) (hxe : ∀ e, e ∈ xs → e < re.2.1.length) (hx60 : xs.length ≤ 60)
    (hbad : ∀ k T J st' li' K', fres cs = .inl k → fr [408, 429, 430, 431] S T → gf [0, 38, 39, 40, 41] I J → mRc T J st' li' b v tot re M E C K' → J 0 = 1 → J 39 = nI k → cmW T J st' li' [] → Q (.inl (some (.int 0)), T))
    (hgood : ∀ nm cm ys ch' T J st' li' K', fres cs = .inr (nm, cm) → ys = (if fb = true then List.range re.2.1.length else xs).filter (psI b tot re nm cm) → fr [408, 425, 426, 427, 429, 430, 431, 432] S T → gf [0, 19, 20, 21, 22, 24, 29, 33, 35, 36, 38, 39, 40, 41, 45, 49, 57] I J → mRc T J st' li' b v tot re M E C K' → J 0 = 0 → J 39 = -1 → J 45 = nI ys.length → J 49 = nI 0 → am_get T 432 = some (iA 60 ch') → chD ch' ys → cmW T J st' li' [] → Q (.inl (some (.int (nI ys.length))), T)) : ev X (d + 16) 152 [.ref 408, .int (bI fb)] S Q := by
  refine ev_wp (L0 := [some (.ref 408), some (.int (bI fb)), none, none, none, none]) (Nat.le_of_ble_eq_true rfl) rfl ?_
  iterate 2 refine wp_step rfl rfl ?_
  refine wp_putg rfl h.1 (by decide) rfl rfl ?_
  rw [mkG_i rfl]
  have h_Sx1 : am_get (am_upd S 408 (moC (upd I 0 (Int32.ofInt 0)) st li)) 408 = some (moC (upd I 0 (Int32.ofInt 0)) st li) := am_get_self h.1
  have hf_Sx1 : fr [408] S (am_upd S 408 (moC (upd I 0 (Int32.ofInt 0)) st li)) := fr_up (by simp)
  generalize am_upd S 408 (moC (upd I 0 (Int32.ofInt 0)) st li) = Sx1 at h_Sx1 hf_Sx1 ⊢
  iterate 2 refine wp_step rfl rfl ?_
  have hg_J1 : gf [0] I (upd I 0 (Int32.ofInt 0)) := gf_up (gf_refl _ _) (by simp)
  have J1_0 : (upd I 0 (Int32.ofInt 0)) 0 = 0 := pk_us
  have a_J1 := h_Sx1
  have hf_J1 := hf_Sx1
  clear h_Sx1 hf_Sx1
  generalize upd I 0 (Int32.ofInt 0) = J1 at a_J1 hg_J1 J1_0
  have h1 := mRc_1 (st' := st) (li' := li) h hf_J1 a_J1 hg_J1 (by decide) (by decide) (by decide)
  obtain ⟨_, w2, w3, ⟨ty, w4, w5⟩, w6, P0, w7, w8, w9⟩ := id hW
  have hW1 : cmW Sx1 J1 st li cs := ⟨a_J1, (hg_J1 38 (by decide)).trans w2, w3, ⟨ty, by rw [fr_get hf_J1 (by decide)]; exact w4, w5⟩, w6, P0, by rw [fr_get hf_J1 (by decide)]; exact w7, by rw [fr_get hf_J1 (by decide)]; exact w8, by rw [fr_get hf_J1 (by decide)]; exact w9⟩
  refine wp_c0 rfl rfl (by decide) rfl (recv_ok a_J1 rfl) rfl (q_mfilter hW1 (fun k T J e1 hk hf2 hg2 hW2 => ?_) (fun nm cm T J P e1 hf2 hg2 hS2 hn2 => ?_))
  · refine wp_putg rfl hW2.1 (by decide) rfl rfl ?_
    rw [mkG_i rfl]
    have h_Sx2 : am_get (am_upd T 408 (moC (upd J 39 (nI k)) st li)) 408 = some (moC (upd J 39 (nI k)) st li) := am_get_self hW2.1
    have hf_Sx2 : fr [408] T (am_upd T 408 (moC (upd J 39 (nI k)) st li)) := fr_up (by simp)
    generalize am_upd T 408 (moC (upd J 39 (nI k)) st li) = Sx2 at h_Sx2 hf_Sx2 ⊢
    iterate 2 refine wp_step rfl rfl ?_
    refine wp_putg rfl h_Sx2 (by decide) rfl rfl ?_
    rw [mkG_i rfl]
    have h_Sx3 : am_get (am_upd Sx2 408 (moC (upd (upd J 39 (nI k)) 38 (Int32.ofInt 0)) st li)) 408 = some (moC (upd (upd J 39 (nI k)) 38 (Int32.ofInt 0)) st li) := am_get_self h_Sx2
    have hf_Sx3 : fr [408] T (am_upd Sx2 408 (moC (upd (upd J 39 (nI k)) 38 (Int32.ofInt 0)) st li)) := fr_trans hf_Sx2 (fr_up (by simp))
    generalize am_upd Sx2 408 (moC (upd (upd J 39 (nI k)) 38 (Int32.ofInt 0)) st li) = Sx3 at h_Sx3 hf_Sx3 ⊢
    clear h_Sx2 hf_Sx2
    have hg_J3 : gf [38, 39] J (upd (upd J 39 (nI k)) 38 (Int32.ofInt 0)) := gf_up (gf_up (gf_refl _ _) (by simp)) (by simp)
    have J3_38 : (upd (upd J 39 (nI k)) 38 (Int32.ofInt 0)) 38 = nI 0 := pk_us
    have J3_39 : (upd (upd J 39 (nI k)) 38 (Int32.ofInt 0)) 39 = nI k := (pk_un (by decide)).trans pk_us
    have a_J3 := h_Sx3
    have hf_J3 := hf_Sx3
    clear h_Sx3 hf_Sx3
    generalize upd (upd J 39 (nI k)) 38 (Int32.ofInt 0) = J3 at a_J3 hg_J3 J3_38 J3_39
    have h2 : mRc T J st li b v tot re M E C K := mRc_up h1 hf2 (fun j hj => by simp only [List.mem_cons, List.not_mem_nil, or_false] at hj; omega) hW2.1 hg2 (by decide) (by decide) (by decide) (mSk_fr h1.2.2.2.2.2.2.2.2.2.2.2.2.2.2.2.2 hf2 (fun j hj => by simp only [List.mem_cons, List.not_mem_nil, or_false] at hj; omega))
    have h3 := mRc_1 (st' := st) (li' := li) h2 hf_J3 a_J3 hg_J3 (by decide) (by decide) (by decide)
    have hf03 : fr [408, 429, 430, 431] S Sx3 := fr_trans (fr_mono hf_J1 (fun j hj => by simp only [List.mem_cons, List.not_mem_nil, or_false] at hj ⊢; omega)) (fr_trans hf2 (fr_mono hf_J3 (fun j hj => by simp only [List.mem_cons, List.not_mem_nil, or_false] at hj ⊢; omega)))
    have hg03 : gf [0, 38, 39, 40, 41] I J3 := gf_trans (gf_mono hg_J1 (fun j hj => by simp only [List.mem_cons, List.not_mem_nil, or_false] at hj ⊢; omega)) (gf_trans (gf_mono hg2 (fun j hj => by simp only [List.mem_cons, List.not_mem_nil, or_false] at hj ⊢; omega)) (gf_mono hg_J3 (fun j hj => by simp only [List.mem_cons, List.not_mem_nil, or_false] at hj ⊢; omega)))
    have j0 : J3 0 = 0 := (hg_J3 0 (by decide)).trans ((hg2 0 (by decide)).trans J1_0)
    obtain ⟨_, v2, v3, v4, v6, P2, v7, v8, v9⟩ := hW2
    refine wp_step rfl rfl ?_
    refine wp_getg (v := (.int (nI k))) rfl a_J3 (by decide) (congrArg Value.int J3_39) ?_
    refine wp_if_f rfl (c1_lt_n (by omega)) ?_
    iterate 2 refine wp_step rfl rfl ?_
    refine wp_c0 rfl rfl (by decide) rfl (recv_ok a_J3 rfl) rfl (q_mfails a_J3 (fun T4 J4 hf4 hg4 a4 j4 => ?_))
    refine wp_iret rfl rfl rfl (hbad k T4 J4 st li K e1 (fr_trans hf03 (fr_mono hf4 (fun j hj => by simp only [List.mem_cons, List.not_mem_nil, or_false] at hj ⊢; omega))) (gf_trans hg03 (gf_mono hg4 (fun j hj => by simp only [List.mem_cons, List.not_mem_nil, or_false] at hj ⊢; omega))) (mRc_1 h3 hf4 a4 hg4 (by decide) (by decide) (by decide)) j4 ((hg4 39 (by decide)).trans J3_39) ⟨a4, (hg4 38 (by decide)).trans J3_38, by decide, ⟨ty, by rw [fr_get hf4 (by decide), fr_get hf03 (by decide)]; exact w4, fun i x hx => by simp at hx⟩, fun c hc => (by cases hc), P2, by rw [fr_get hf4 (by decide), fr_get hf_J3 (by decide)]; exact v7, by rw [fr_get hf4 (by decide), fr_get hf_J3 (by decide)]; exact v8, by rw [fr_get hf4 (by decide), fr_get hf_J3 (by decide)]; exact v9⟩)
  · refine wp_putg rfl hS2.1 (by decide) rfl rfl ?_
    rw [mkG_i rfl]
    have h_Sx4 : am_get (am_upd T 408 (moC (upd J 39 (-1)) st li)) 408 = some (moC (upd J 39 (-1)) st li) := am_get_self hS2.1
    have hf_Sx4 : fr [408] T (am_upd T 408 (moC (upd J 39 (-1)) st li)) := fr_up (by simp)
    generalize am_upd T 408 (moC (upd J 39 (-1)) st li) = Sx4 at h_Sx4 hf_Sx4 ⊢
    iterate 2 refine wp_step rfl rfl ?_
    refine wp_putg rfl h_Sx4 (by decide) rfl rfl ?_
    rw [mkG_i rfl]
    have h_Sx5 : am_get (am_upd Sx4 408 (moC (upd (upd J 39 (-1)) 38 (Int32.ofInt 0)) st li)) 408 = some (moC (upd (upd J 39 (-1)) 38 (Int32.ofInt 0)) st li) := am_get_self h_Sx4
    have hf_Sx5 : fr [408] T (am_upd Sx4 408 (moC (upd (upd J 39 (-1)) 38 (Int32.ofInt 0)) st li)) := fr_trans hf_Sx4 (fr_up (by simp))
    generalize am_upd Sx4 408 (moC (upd (upd J 39 (-1)) 38 (Int32.ofInt 0)) st li) = Sx5 at h_Sx5 hf_Sx5 ⊢
    clear h_Sx4 hf_Sx4
    have hg_J3 : gf [38, 39] J (upd (upd J 39 (-1)) 38 (Int32.ofInt 0)) := gf_up (gf_up (gf_refl _ _) (by simp)) (by simp)
    have J3_38 : (upd (upd J 39 (-1)) 38 (Int32.ofInt 0)) 38 = nI 0 := pk_us
    have J3_39 : (upd (upd J 39 (-1)) 38 (Int32.ofInt 0)) 39 = -1 := (pk_un (by decide)).trans pk_us
    have a_J3 := h_Sx5
    have hf_J3 := hf_Sx5
    clear h_Sx5 hf_Sx5
    generalize upd (upd J 39 (-1)) 38 (Int32.ofInt 0) = J3 at a_J3 hg_J3 J3_38 J3_39
    have h2 : mRc T J st li b v tot re M E C K := mRc_up h1 hf2 (fun j hj => by simp only [List.mem_cons, List.not_mem_nil, or_false] at hj; omega) hS2.1 hg2 (by decide) (by decide) (by decide) (mSk_fr h1.2.2.2.2.2.2.2.2.2.2.2.2.2.2.2.2 hf2 (fun j hj => by simp only [List.mem_cons, List.not_mem_nil, or_false] at hj; omega))
    have h3 := mRc_1 (st' := st) (li' := li) h2 hf_J3 a_J3 hg_J3 (by decide) (by decide) (by decide)
    have hf03 : fr [408, 429, 430, 431] S Sx5 := fr_trans (fr_mono hf_J1 (fun j hj => by simp only [List.mem_cons, List.not_mem_nil, or_false] at hj ⊢; omega)) (fr_trans hf2 (fr_mono hf_J3 (fun j hj => by simp only [List.mem_cons, List.not_mem_nil, or_false] at hj ⊢; omega)))
    have hg03 : gf [0, 38, 39, 40, 41] I J3 := gf_trans (gf_mono hg_J1 (fun j hj => by simp only [List.mem_cons, List.not_mem_nil, or_false] at hj ⊢; omega)) (gf_trans (gf_mono hg2 (fun j hj => by simp only [List.mem_cons, List.not_mem_nil, or_false] at hj ⊢; omega)) (gf_mono hg_J3 (fun j hj => by simp only [List.mem_cons, List.not_mem_nil, or_false] at hj ⊢; omega)))
    have j0 : J3 0 = 0 := (hg_J3 0 (by decide)).trans ((hg2 0 (by decide)).trans J1_0)
    refine wp_step rfl rfl ?_
    refine wp_getg (v := (.int (-1))) rfl a_J3 (by decide) (congrArg Value.int J3_39) ?_
    refine wp_if_t rfl rfl ?_
    obtain ⟨f16, f11, f65⟩ := fres_ok (fun c hc => by have := w6 c hc; omega) e1
    have hF3 : flM Sx5 J3 P nm cm := ⟨by rw [fr_get hf_J3 (by decide)]; exact hS2.2.2.2.2.2.1, by rw [fr_get hf_J3 (by decide)]; exact hS2.2.2.2.2.2.2.1, by rw [fr_get hf_J3 (by decide)]; exact hS2.2.2.2.2.2.2.2.1, hS2.2.2.2.2.2.2.2.2.1, (hg_J3 40 (by decide)).trans hn2, (hg_J3 41 (by decide)).trans (by rw [← List.length_reverse]; exact hS2.2.2.2.2.2.2.2.2.2), f16, f11, f65⟩
    have hch3 : am_get Sx5 432 = some (iA 60 ch) := by rw [fr_get hf03 (by decide)]; exact hch
    have hev60 := h.2.2.2.2.2.2.2.2.2.2.2.2.1
    have hrun : ∀ (zs : List Nat), zs.length ≤ 60 → (∀ e, e ∈ zs → e < re.2.1.length) → (if fb = true then List.range re.2.1.length else xs) = zs → (∀ j e, zs[j]? = some e → (fb = true → e = j) ∧ (fb = false → ch j = nI e)) → wp X (d + 15) 152 57 [some (.ref 408), some (.int (bI fb)), some (.int (nI zs.length)), some (.int (nI 0)), some (.int (nI 0)), none] [] Sx5 Q := by
      intro zs hz60 hze hzs hzj
      refine ms_loop hb hR hP hE hz60 hze zs.length 0 [] ch Sx5 J3 st li K none (by omega) (Nat.le_refl _) h3 hF3 hch3 (fun j e hj => by simp at hj) (fun j e _ he => hzj j e he) (fun L' ch' T5 J5 st5 li5 K5 a1 a2 a3 a4 a5 a6 y5 => ?_)
    
      iterate 2 refine wp_step rfl rfl ?_
      refine wp_putg rfl a4.1 (by decide) rfl rfl ?_
      rw [mkG_i rfl]
      have h_Sx6 : am_get (am_upd T5 408 (moC (upd J5 45 (nI L'.length)) st5 li5)) 408 = some (moC (upd J5 45 (nI L'.length)) st5 li5) := am_get_self a4.1
      have hf_Sx6 : fr [408] T5 (am_upd T5 408 (moC (upd J5 45 (nI L'.length)) st5 li5)) := fr_up (by simp)
      generalize am_upd T5 408 (moC (upd J5 45 (nI L'.length)) st5 li5) = Sx6 at h_Sx6 hf_Sx6 ⊢
      iterate 2 refine wp_step rfl rfl ?_
      refine wp_putg rfl h_Sx6 (by decide) rfl rfl ?_
      rw [mkG_i rfl]
      have h_Sx7 : am_get (am_upd Sx6 408 (moC (upd (upd J5 45 (nI L'.length)) 49 (Int32.ofInt 0)) st5 li5)) 408 = some (moC (upd (upd J5 45 (nI L'.length)) 49 (Int32.ofInt 0)) st5 li5) := am_get_self h_Sx6
      have hf_Sx7 : fr [408] T5 (am_upd Sx6 408 (moC (upd (upd J5 45 (nI L'.length)) 49 (Int32.ofInt 0)) st5 li5)) := fr_trans hf_Sx6 (fr_up (by simp))
      generalize am_upd Sx6 408 (moC (upd (upd J5 45 (nI L'.length)) 49 (Int32.ofInt 0)) st5 li5) = Sx7 at h_Sx7 hf_Sx7 ⊢
      clear h_Sx6 hf_Sx6
      refine wp_step rfl rfl ?_
      have hg_J6 : gf [45, 49] J5 (upd (upd J5 45 (nI L'.length)) 49 (Int32.ofInt 0)) := gf_up (gf_up (gf_refl _ _) (by simp)) (by simp)
      have J6_45 : (upd (upd J5 45 (nI L'.length)) 49 (Int32.ofInt 0)) 45 = nI L'.length := (pk_un (by decide)).trans pk_us
      have J6_49 : (upd (upd J5 45 (nI L'.length)) 49 (Int32.ofInt 0)) 49 = nI 0 := pk_us
      have a_J6 := h_Sx7
      have hf_J6 := hf_Sx7
      clear h_Sx7 hf_Sx7
      generalize upd (upd J5 45 (nI L'.length)) 49 (Int32.ofInt 0) = J6 at a_J6 hg_J6 J6_45 J6_49
      refine wp_iret rfl rfl rfl (hgood nm cm L' ch' Sx7 J6 st5 li5 K5 e1 (by rw [hzs, a1, List.drop_zero, List.nil_append]) (fr_trans (fr_mono hf03 (fun j hj => by simp only [List.mem_cons, List.not_mem_nil, or_false] at hj ⊢; omega)) (fr_trans (fr_mono a2 (fun j hj => by simp only [List.mem_cons, List.not_mem_nil, or_false] at hj ⊢; omega)) (fr_mono hf_J6 (fun j hj => by simp only [List.mem_cons, List.not_mem_nil, or_false] at hj ⊢; omega)))) (gf_trans (gf_mono hg03 (fun j hj => by simp only [List.mem_cons, List.not_mem_nil, or_false] at hj ⊢; omega)) (gf_trans (gf_mono a3 (fun j hj => by simp only [List.mem_cons, List.not_mem_nil, or_false] at hj ⊢; omega)) (gf_mono hg_J6 (fun j hj => by simp only [List.mem_cons, List.not_mem_nil, or_false] at hj ⊢; omega)))) (mRc_1 a4 hf_J6 a_J6 hg_J6 (by decide) (by decide) (by decide)) ((hg_J6 0 (by decide)).trans ((a3 0 (by decide)).trans j0)) ((hg_J6 39 (by decide)).trans ((a3 39 (by decide)).trans J3_39)) J6_45 J6_49 (by rw [fr_get hf_J6 (by decide)]; exact a5) a6 ⟨a_J6, (hg_J6 38 (by decide)).trans ((a3 38 (by decide)).trans J3_38), by decide, ⟨ty, by rw [fr_get hf_J6 (by decide), fr_get a2 (by decide), fr_get hf03 (by decide)]; exact w4, fun i x hx => by simp at hx⟩, fun c hc => (by cases hc), P, by rw [fr_get hf_J6 (by decide), fr_get a2 (by decide)]; exact hF3.1, by rw [fr_get hf_J6 (by decide), fr_get a2 (by decide)]; exact hF3.2.1, by rw [fr_get hf_J6 (by decide), fr_get a2 (by decide)]; exact hF3.2.2.1⟩)
    cases fb with
    | false =>
      show wp X (d + 15) 152 31 [some (.ref 408), some (.int (bI false)), none, none, none, none] [] Sx5 Q
      refine wp_step rfl rfl ?_
      refine wp_if_t rfl rfl ?_
      refine wp_step rfl rfl ?_
      refine wp_getg (v := (.int (nI xs.length))) rfl a_J3 (by decide) (congrArg Value.int ((hg03 45 (by decide)).trans h45)) ?_
      iterate 5 refine wp_step rfl rfl ?_
      exact hrun xs hx60 hxe rfl (fun j e he => ⟨fun h9 => (by cases h9), fun _ => hxs j e he⟩)
    | true =>
      show wp X (d + 15) 152 31 [some (.ref 408), some (.int (bI true)), none, none, none, none] [] Sx5 Q
      refine wp_step rfl rfl ?_
      refine wp_if_f rfl rfl ?_
      refine wp_step rfl rfl ?_
      refine wp_getg rfl a_J3 (by decide) rfl ?_
      refine wp_step rfl rfl ?_
      refine wp_getg (v := (.int (nI v))) rfl a_J3 (by decide) (congrArg Value.int h3.2.1) ?_
      have hv := h3.2.2.1
      refine wp_ald rfl (Or.inl ⟨rfl, rfl⟩) (by decide) h3.2.2.2.2.2.2.2.2.2.2.1.1 (am_in_nI (by omega) (by decide)) ?_
      rw [nI_clamp (by omega)]
      rw [h3.2.2.2.2.2.2.2.2.2.2.2.1.1]
      iterate 6 refine wp_step rfl rfl ?_
      have hrl := hrun (List.range re.2.1.length) (by rw [List.length_range]; omega) (fun e he => List.mem_range.mp he) rfl (fun j e he => ⟨fun _ => by
          have hj := (List.getElem?_eq_some_iff.mp he).1
          rw [List.length_range] at hj
          rw [List.getElem?_range hj] at he
          exact (Option.some.inj he).symm, fun h9 => by cases h9⟩)
      rw [List.length_range] at hrl
      exact hrl
theorem q_mmisfit {S : am_S} {I : Nat → Int32} {st li : Int64} {mp : Int32} (h : am_get S 408 = some (moC I st li)) (h39 : I 39 = mp) (hq : ∀ T J, fr [408] S T → gf [0] I J → am_get T 408 = some (moC J st li) → J 0 = 0 → Q (.inl (some (.int mp)), T)) : ev X (d + 1) 153 [.ref 408] S Q := by
  refine ev_wp (L0 := [some (.ref 408)]) (Nat.le_of_ble_eq_true rfl) rfl ?_
  iterate 2 refine wp_step rfl rfl ?_
  refine wp_putg rfl h (by decide) rfl rfl ?_
  rw [mkG_i rfl]
  have h_Sx8 : am_get (am_upd S 408 (moC (upd I 0 (Int32.ofInt 0)) st li)) 408 = some (moC (upd I 0 (Int32.ofInt 0)) st li) := am_get_self h
  have hf_Sx8 : fr [408] S (am_upd S 408 (moC (upd I 0 (Int32.ofInt 0)) st li)) := fr_up (by simp)
  generalize am_upd S 408 (moC (upd I 0 (Int32.ofInt 0)) st li) = Sx8 at h_Sx8 hf_Sx8 ⊢
  have hg_J : gf [0] I (upd I 0 (Int32.ofInt 0)) := gf_up (gf_refl _ _) (by simp)
  have J_0 : (upd I 0 (Int32.ofInt 0)) 0 = 0 := pk_us
  have a_J := h_Sx8
  have hf_J := hf_Sx8
  clear h_Sx8 hf_Sx8
  generalize upd I 0 (Int32.ofInt 0) = J at a_J hg_J J_0
  refine wp_step rfl rfl ?_
  refine wp_getg (v := (.int mp)) rfl a_J (by decide) (congrArg Value.int ((hg_J 39 (by decide)).trans h39)) ?_
  refine wp_iret rfl rfl rfl (hq Sx8 J hf_J hg_J a_J J_0)
theorem q_mselected {S : am_S} {I : Nat → Int32} {st li : Int64} {xs : List Nat} {ch : Nat → Int32} {i : Int32} (h : am_get S 408 = some (moC I st li)) (h45 : I 45 = nI xs.length) (hch : am_get S 432 = some (iA 60 ch)) (hxs : chD ch xs) (hx60 : xs.length ≤ 60)
    (hret : ∀ k e, idx i xs.length = some k → xs[k]? = some e → ∀ T J, fr [408] S T → gf [0] I J → am_get T 408 = some (moC J st li) → J 0 = 0 → Q (.inl (some (.int (nI e))), T))
    (hno : idx i xs.length = none → ∀ T J, fr [408] S T → gf [0] I J → am_get T 408 = some (moC J st li) → J 0 = 1 → Q (.inl (some (.int 0)), T)) : ev X (d + 1) 154 [.ref 408, .int i] S Q := by
  refine ev_wp (L0 := [some (.ref 408), some (.int i)]) (Nat.le_of_ble_eq_true rfl) rfl ?_
  iterate 2 refine wp_step rfl rfl ?_
  refine wp_if rfl (fun c0 => ?_) (fun c0 => ?_)
  · replace c0 := q_lt_t c0
    iterate 2 refine wp_step rfl rfl ?_
    refine wp_putg rfl h (by decide) rfl rfl ?_
    rw [mkG_i rfl]
    have h_Sx9 : am_get (am_upd S 408 (moC (upd I 0 (Int32.ofInt 1)) st li)) 408 = some (moC (upd I 0 (Int32.ofInt 1)) st li) := am_get_self h
    have hf_Sx9 : fr [408] S (am_upd S 408 (moC (upd I 0 (Int32.ofInt 1)) st li)) := fr_up (by simp)
    generalize am_upd S 408 (moC (upd I 0 (Int32.ofInt 1)) st li) = Sx9 at h_Sx9 hf_Sx9 ⊢
    have hg_J : gf [0] I (upd I 0 (Int32.ofInt 1)) := gf_up (gf_refl _ _) (by simp)
    have J_0 : (upd I 0 (Int32.ofInt 1)) 0 = 1 := pk_us
    have a_J := h_Sx9
    have hf_J := hf_Sx9
    clear h_Sx9 hf_Sx9
    generalize upd I 0 (Int32.ofInt 1) = J at a_J hg_J J_0
    refine wp_step rfl rfl ?_
    refine wp_getg (v := (.int 1)) rfl a_J (by decide) (congrArg Value.int J_0) ?_
    refine wp_if_f rfl rfl ?_
    iterate 2 refine wp_step rfl rfl ?_
    refine wp_iret rfl rfl rfl (hno (idx_neg c0) Sx9 J hf_J hg_J a_J J_0)
  · replace c0 := q_lt_f c0
    iterate 2 refine wp_step rfl rfl ?_
    refine wp_getg (v := (.int (nI xs.length))) rfl h (by decide) (congrArg Value.int h45) ?_
    refine wp_icmp rfl (fun c1 => ?_) (fun c1 => ?_)
    · replace c1 := i_lt_t c1
      obtain ⟨k, hk⟩ := idx_ok (by omega) c0 c1
      obtain ⟨rfl, hkl⟩ := idx_some hk (by omega)
      have hat : xs[k]? = some xs[k] := List.getElem?_eq_getElem hkl
      generalize xs[k] = e at hat
      refine wp_step rfl rfl ?_
      refine wp_putg rfl h (by decide) rfl rfl ?_
      rw [mkG_i rfl]
      have h_Sx11 : am_get (am_upd S 408 (moC (upd I 0 (Int32.ofInt 0)) st li)) 408 = some (moC (upd I 0 (Int32.ofInt 0)) st li) := am_get_self h
      have hf_Sx11 : fr [408] S (am_upd S 408 (moC (upd I 0 (Int32.ofInt 0)) st li)) := fr_up (by simp)
      generalize am_upd S 408 (moC (upd I 0 (Int32.ofInt 0)) st li) = Sx11 at h_Sx11 hf_Sx11 ⊢
      have hg_J : gf [0] I (upd I 0 (Int32.ofInt 0)) := gf_up (gf_refl _ _) (by simp)
      have J_0 : (upd I 0 (Int32.ofInt 0)) 0 = 0 := pk_us
      have a_J := h_Sx11
      have hf_J := hf_Sx11
      clear h_Sx11 hf_Sx11
      generalize upd I 0 (Int32.ofInt 0) = J at a_J hg_J J_0
      refine wp_step rfl rfl ?_
      refine wp_getg (v := (.int 0)) rfl a_J (by decide) (congrArg Value.int J_0) ?_
      refine wp_if_t rfl rfl ?_
      refine wp_step rfl rfl ?_
      refine wp_getg rfl a_J (by decide) rfl ?_
      refine wp_step rfl rfl ?_
      have hch2 : am_get Sx11 432 = some (iA 60 ch) := by rw [fr_get hf_J (by decide)]; exact hch
      refine wp_ald rfl (Or.inl ⟨rfl, rfl⟩) (by decide) hch2 (am_in_nI (by omega) (by decide)) ?_
      rw [nI_clamp (by omega)]
      rw [hxs k e hat]
      refine wp_iret rfl rfl rfl (hret k e hk hat Sx11 J hf_J hg_J a_J J_0)
    · replace c1 := i_lt_f c1
      iterate 2 refine wp_step rfl rfl ?_
      refine wp_putg rfl h (by decide) rfl rfl ?_
      rw [mkG_i rfl]
      have h_Sx10 : am_get (am_upd S 408 (moC (upd I 0 (Int32.ofInt 1)) st li)) 408 = some (moC (upd I 0 (Int32.ofInt 1)) st li) := am_get_self h
      have hf_Sx10 : fr [408] S (am_upd S 408 (moC (upd I 0 (Int32.ofInt 1)) st li)) := fr_up (by simp)
      generalize am_upd S 408 (moC (upd I 0 (Int32.ofInt 1)) st li) = Sx10 at h_Sx10 hf_Sx10 ⊢
      have hg_J : gf [0] I (upd I 0 (Int32.ofInt 1)) := gf_up (gf_refl _ _) (by simp)
      have J_0 : (upd I 0 (Int32.ofInt 1)) 0 = 1 := pk_us
      have a_J := h_Sx10
      have hf_J := hf_Sx10
      clear h_Sx10 hf_Sx10
      generalize upd I 0 (Int32.ofInt 1) = J at a_J hg_J J_0
      refine wp_step rfl rfl ?_
      refine wp_getg (v := (.int 1)) rfl a_J (by decide) (congrArg Value.int J_0) ?_
      refine wp_if_f rfl rfl ?_
      iterate 2 refine wp_step rfl rfl ?_
      refine wp_iret rfl rfl rfl (hno (idx_ge (by omega) c1) Sx10 J hf_J hg_J a_J J_0)
end MSELECT2
