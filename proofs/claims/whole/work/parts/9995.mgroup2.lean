/-! THE MODEL: group, grouped -/
section MGROUP2
variable {X : Nat × (Nat → Int32)} {d : Nat} {Q : am_R → Prop} {b : Nat → Nat} {v tot : Nat} {re : jRe} {M : jMT} {E : jME} {C : jMC}
set_option maxHeartbeats 2000000 in
theorem mg_loop {xs : List Nat} {ch : Nat → Int32} {by_ path : Int32} (hb : ∀ j, b j < 256) (hR : reQ b tot re) (hP : evP b tot re) (hE : evR b tot re) (hx60 : xs.length ≤ 60) (hxs : chD ch xs) (hxe : ∀ e, e ∈ xs → e < re.2.1.length) : ∀ (m i : Nat) (gs : List jG) (P : jGA) (S : am_S) (I : Nat → Int32) (st li : Int64) (K : jMK) (x4 : Option Value), i + m = xs.length → gs.length ≤ i → gB gs (2 * i) → mRc S I st li b v tot re M E C K → I 45 = nI xs.length → am_get S 432 = some (iA 60 ch) → I 49 = nI gs.length → mGr S P → gD P gs → (∀ gs' P' T J st' li' K', gs' = (xs.drop i).foldl (grp1 b tot re by_ path) gs → fr [408, 425, 426, 427, 434, 435, 436, 437, 438, 439] S T → gf [19, 20, 21, 22, 24, 29, 33, 35, 36, 49, 57] I J → mRc T J st' li' b v tot re M E C K' → J 49 = nI gs'.length → mGr T P' → gD P' gs' → gB gs' (2 * xs.length) → Q (.inl (some (.int (nI gs'.length))), T)) → wp X (d + 14) 159 12 [some (.ref 408), some (.int by_), some (.int path), some (.int (nI i)), x4] [] S Q := by
  intro m
  induction m with
  | zero =>
    intro i gs P S I st li K x4 him hgi hB h h45 hch h49 hG hD hq
    obtain rfl : i = xs.length := by omega
    iterate 2 refine wp_step rfl rfl ?_
    refine wp_getg (v := (.int (nI xs.length))) rfl h.1 (by decide) (congrArg Value.int h45) ?_
    refine wp_icmp rfl (fun c0 => ?_) (fun c0 => ?_)
    · replace c0 := n_ge_t (a := xs.length) (b := xs.length) (by omega) (by omega) c0
      have hq0 := hq gs P S I st li K (by rw [List.drop_eq_nil_of_le (Nat.le_refl _)]; rfl) (fr_refl _ _) (gf_refl _ _) h h49 hG hD (gB_up hB (by omega))
      refine wp_step rfl rfl ?_
      refine wp_getg (v := (.int (nI gs.length))) rfl h.1 (by decide) (congrArg Value.int h49) ?_
      refine wp_iret rfl rfl rfl hq0
    · replace c0 := n_ge_f (a := xs.length) (b := xs.length) (by omega) (by omega) c0
      omega
  | succ m ih =>
    intro i gs P S I st li K x4 him hgi hB h h45 hch h49 hG hD hq
    iterate 2 refine wp_step rfl rfl ?_
    refine wp_getg (v := (.int (nI xs.length))) rfl h.1 (by decide) (congrArg Value.int h45) ?_
    refine wp_icmp rfl (fun c0 => ?_) (fun c0 => ?_)
    · replace c0 := n_ge_t (a := i) (b := xs.length) (by omega) (by omega) c0
      omega
    · replace c0 := n_ge_f (a := i) (b := xs.length) (by omega) (by omega) c0
      have hil : i < xs.length := by omega
      have hxi : xs[i]? = some xs[i] := List.getElem?_eq_getElem hil
      have hdr : xs.drop i = xs[i] :: xs.drop (i + 1) := List.drop_eq_getElem_cons hil
      have hel := hxe xs[i] (List.getElem_mem hil)
      generalize xs[i] = e at hxi hdr hel
      have hye : re.2.1[e]? = some re.2.1[e] := List.getElem?_eq_getElem hel
      generalize re.2.1[e] = y at hye
      have nx : ∀ gs1 P1 T J st1 li1 K1 (x : Option Value), grp1 b tot re by_ path gs e = gs1 → fr [408, 425, 426, 427, 434, 435, 436, 437, 438, 439] S T → gf [19, 20, 21, 22, 24, 29, 33, 35, 36, 49, 57] I J → mRc T J st1 li1 b v tot re M E C K1 → J 49 = nI gs1.length → mGr T P1 → gD P1 gs1 → gs1.length ≤ i + 1 → gB gs1 (2 * (i + 1)) → wp X (d + 14) 159 79 [some (.ref 408), some (.int by_), some (.int path), some (.int (nI i)), x] [] T Q := by
        intro gs1 P1 T J st1 li1 K1 x e1 hf hg h1 j49 hG1 hD1 hl1 hB1
      
        iterate 2 refine wp_step rfl rfl ?_
        rw [show nI i + Int32.ofInt 1 = nI (i + 1) from nI_add i 1]
        exact ih (i + 1) gs1 P1 T J st1 li1 K1 x (by omega) hl1 hB1 h1 ((hg 45 (by decide)).trans h45) (by rw [fr_get hf (by decide)]; exact hch) j49 hG1 hD1 (fun gs' P' T2 J2 st2 li2 K2 a1 a2 a3 a4 a5 a6 a7 a8 => hq gs' P' T2 J2 st2 li2 K2 (by rw [a1, hdr, List.foldl_cons, e1]) (fr_trans hf a2) (gf_trans hg a3) a4 a5 a6 a7 a8)
      iterate 2 refine wp_step rfl rfl ?_
      refine wp_getg rfl h.1 (by decide) rfl ?_
      refine wp_step rfl rfl ?_
      refine wp_ald rfl (Or.inl ⟨rfl, rfl⟩) (by decide) hch (am_in_nI (by omega) (by decide)) ?_
      rw [nI_clamp (by omega)]
      rw [hxs i e hxi]
      refine wp_step rfl rfl ?_
      refine wp_c0 rfl rfl (by decide) rfl (recv_ok h.1 rfl) rfl (q_misNum (path := by_) hb hR hP hE h hye (fun ck T J st2 li2 K2 hf2 hg2 hl2 hs2 => ?_))
      have hch2 : am_get T 432 = some (iA 60 ch) := by rw [fr_get hf2 (by decide)]; exact hch
      have hG2 := mGr_fr hG hf2 (fun j hj => by simp only [List.mem_cons, List.not_mem_nil, or_false] at hj; omega)
      have j49 := (hg2 49 (by decide)).trans h49
      have hf02 : fr [408, 425, 426, 427, 434, 435, 436, 437, 438, 439] S T := fr_mono hf2 (fun j hj => by simp only [List.mem_cons, List.not_mem_nil, or_false] at hj ⊢; omega)
      have hg02 : gf [19, 20, 21, 22, 24, 29, 33, 35, 36, 49, 57] I J := gf_mono hg2 (fun j hj => by simp only [List.mem_cons, List.not_mem_nil, or_false] at hj ⊢; omega)
      cases en : isNm b (ldE b tot re y by_) with
      | false =>
        show wp X (d + 14) 159 31 [some (.ref 408), some (.int by_), some (.int path), some (.int (nI i)), x4] [.int 0] T Q
        refine wp_if_t rfl rfl ?_
        exact nx gs P T J st2 li2 K2 x4 (by unfold grp1; rw [hye]; dsimp only; rw [en]; rfl) hf02 hg02 hl2.1 j49 hG2 hD (by omega) (gB_up hB (by omega))
      | true =>
        obtain ⟨o, el⟩ : ∃ o, ldE b tot re y by_ = some o := by
          cases el : ldE b tot re y by_ with
          | none => rw [el] at en; exact absurd en (show ¬ (decide ((2 : Nat) ≤ 0 ∧ (0 : Nat) ≤ 7) = true) by decide)
          | some o => exact ⟨o, rfl⟩
        rw [el] at hs2
        show wp X (d + 14) 159 31 [some (.ref 408), some (.int by_), some (.int path), some (.int (nI i)), x4] [.int 1] T Q
        refine wp_if_f rfl rfl ?_
        iterate 2 refine wp_step rfl rfl ?_
        refine wp_c0 rfl rfl (by decide) rfl (recv_ok hl2.1.1 rfl) rfl (q_mworth hb hl2 hs2 (fun T3 J3 hf3 hg3 hl3 => ?_))
        rw [wrV_O hl3.2.2.2, ← el]
        have hgr : grp1 b tot re by_ path gs e = (if isNm b (ldE b tot re y path) = true then gAdd (gEnt (wrO b tot re y (ldE b tot re y by_)) gs).2 (wrO b tot re y (ldE b tot re y path)) (gEnt (wrO b tot re y (ldE b tot re y by_)) gs).1 else (gEnt (wrO b tot re y (ldE b tot re y by_)) gs).1) := by unfold grp1; rw [hye]; dsimp only; rw [en]; rfl
        generalize wrO b tot re y (ldE b tot re y by_) = key at hgr ⊢
        clear el
        have hf03 : fr [408, 425, 426, 427, 434, 435, 436, 437, 438, 439] S T3 := fr_trans hf02 (fr_mono hf3 (fun j hj => by simp only [List.mem_cons, List.not_mem_nil, or_false] at hj ⊢; omega))
        have hg03 : gf [19, 20, 21, 22, 24, 29, 33, 35, 36, 49, 57] I J3 := gf_trans hg02 (gf_mono hg3 (fun j hj => by simp only [List.mem_cons, List.not_mem_nil, or_false] at hj ⊢; omega))
        have hG3 := mGr_fr hG2 hf3 (fun j hj => by simp only [List.mem_cons, List.not_mem_nil, or_false] at hj; omega)
        have k49 := (hg3 49 (by decide)).trans j49
        refine wp_c0 rfl rfl (by decide) rfl (recv_ok hl3.1.1 rfl) rfl (q_mgroupOf (key := key) hl3.1.1 k49 hG3 hD (by omega) (fun T4 J4 P4 hf4 hg4 a4 j4 hG4 hD4 => ?_))
        obtain ⟨x, hx, hent, hcase⟩ := gOf_ent key gs
        obtain ⟨hB5, hg5⟩ := gEnt_ok (key := key) hB
        have hlen1 : (gOf key gs).1.length ≤ i + 1 := by
          rcases hcase with g | g <;> rw [g]
          · omega
          · rw [List.length_append, List.length_singleton]; omega
        have hxB : x.2.1 + 1 < 2 ^ 31 ∧ x.2.2.1 < 2 ^ 31 - 1 := by
          rcases hcase with g | g
          · rw [g] at hx
            have := hB.2 x (List.mem_of_getElem? hx)
            omega
          · rw [g] at hx
            rcases List.mem_append.mp (List.mem_of_getElem? hx) with q | q
            · have := hB.2 x q; omega
            · rw [List.mem_singleton] at q; subst q; dsimp only; omega
        generalize (gOf key gs).1 = gs4 at hx hent hcase hlen1 j4 hD4
        generalize (gOf key gs).2 = g at hx hent ⊢
        have hgl := (List.getElem?_eq_some_iff.mp hx).1
        rw [hent] at hgr hB5 hg5
        dsimp only at hgr hB5 hg5
        have h4 : mRc T4 J4 st2 li2 b v tot re M E C K2 := mRc_up hl3.1 hf4 (fun j hj => by simp only [List.mem_cons, List.not_mem_nil, or_false] at hj; omega) a4 hg4 (by decide) (by decide) (by decide) (mSk_fr hl3.1.2.2.2.2.2.2.2.2.2.2.2.2.2.2.2.2 hf4 (fun j hj => by simp only [List.mem_cons, List.not_mem_nil, or_false] at hj; omega))
        obtain ⟨d1, d2, d3, d4, d5, d6⟩ := hD4 g x hx
        have hch4 : am_get T4 432 = some (iA 60 ch) := by rw [fr_get hf4 (by decide), fr_get hf3 (by decide)]; exact hch2
        have hf04 : fr [408, 425, 426, 427, 434, 435, 436, 437, 438, 439] S T4 := fr_trans hf03 (fr_mono hf4 (fun j hj => by simp only [List.mem_cons, List.not_mem_nil, or_false] at hj ⊢; omega))
        have hg04 : gf [19, 20, 21, 22, 24, 29, 33, 35, 36, 49, 57] I J4 := gf_trans hg03 (gf_mono hg4 (fun j hj => by simp only [List.mem_cons, List.not_mem_nil, or_false] at hj ⊢; omega))
        refine wp_step rfl rfl ?_
        show wp X (d + 14) 159 44 [some (.ref 408), some (.int by_), some (.int path), some (.int (nI i)), some (.int (nI g))] [] T4 Q
        refine wp_step rfl rfl ?_
        refine wp_getg rfl h4.1 (by decide) rfl ?_
        iterate 2 refine wp_step rfl rfl ?_
        refine wp_ald rfl (Or.inl ⟨rfl, rfl⟩) (by decide) hG4.2.1 (am_in_nI (by omega) (by decide)) ?_
        rw [nI_clamp (by omega)]
        rw [d2]
        iterate 2 refine wp_step rfl rfl ?_
        rw [show nI x.2.1 + Int32.ofInt 1 = nI (x.2.1 + 1) from nI_add x.2.1 1]
        refine wp_ast rfl (Or.inl ⟨rfl, rfl⟩) hG4.2.1 (am_in_nI (by omega) (by decide)) ?_
        rw [nI_clamp (by omega)]
        rw [show vp_nar (am_ty 0) (nI (x.2.1 + 1)) = nI (x.2.1 + 1) from rfl]
        have hG5 := mGr_435 hG4 (upd P4.2.1 g (nI (x.2.1 + 1)))
        have hf5 : fr [435] T4 (am_upd T4 435 (iA 60 (upd P4.2.1 g (nI (x.2.1 + 1))))) := fr_up (by simp)
        generalize am_upd T4 435 (iA 60 (upd P4.2.1 g (nI (x.2.1 + 1)))) = T5 at hG5 hf5 ⊢
        have h5 : mRc T5 J4 st2 li2 b v tot re M E C K2 := mRc_up (ks := []) h4 hf5 (fun j hj => by simp only [List.mem_cons, List.not_mem_nil, or_false] at hj; omega) (by rw [fr_get hf5 (by decide)]; exact h4.1) (gf_refl _ _) (by decide) (by decide) (by decide) (mSk_fr h4.2.2.2.2.2.2.2.2.2.2.2.2.2.2.2.2 hf5 (fun j hj => by simp only [List.mem_cons, List.not_mem_nil, or_false] at hj; omega))
        have hch5 : am_get T5 432 = some (iA 60 ch) := by rw [fr_get hf5 (by decide)]; exact hch4
        have hf05 : fr [408, 425, 426, 427, 434, 435, 436, 437, 438, 439] S T5 := fr_trans hf04 (fr_mono hf5 (fun j hj => by simp only [List.mem_cons, List.not_mem_nil, or_false] at hj ⊢; omega))
        have hD5 : gD (P4.1, upd P4.2.1 g (nI (x.2.1 + 1)), P4.2.2.1, P4.2.2.2.1, P4.2.2.2.2.1, P4.2.2.2.2.2) (gs4.set g (x.1, x.2.1 + 1, x.2.2)) := by
          intro j z hz
          rcases at_put hz with ⟨rfl, rfl⟩ | ⟨hne, hz2⟩
          · exact ⟨d1, pk_us, d3, d4, d5, d6⟩
          · obtain ⟨c1, c2, c3, c4, c5, c6⟩ := hD4 j z hz2
            exact ⟨c1, (pk_un hne).trans c2, c3, c4, c5, c6⟩
        have hx5 : (gs4.set g (x.1, x.2.1 + 1, x.2.2))[g]? = some (x.1, x.2.1 + 1, x.2.2) := by rw [List.getElem?_set_self hgl]
        have hl5 : (gs4.set g (x.1, x.2.1 + 1, x.2.2)).length = gs4.length := List.length_set
        rw [← hl5] at j4 hlen1
        generalize (P4.1, upd P4.2.1 g (nI (x.2.1 + 1)), P4.2.2.1, P4.2.2.2.1, P4.2.2.2.2.1, P4.2.2.2.2.2) = P5 at hG5 hD5
        generalize gs4.set g (x.1, x.2.1 + 1, x.2.2) = gs5 at hgr hB5 hg5 hD5 hx5 j4 hlen1
        iterate 2 refine wp_step rfl rfl ?_
        refine wp_getg rfl h5.1 (by decide) rfl ?_
        refine wp_step rfl rfl ?_
        refine wp_ald rfl (Or.inl ⟨rfl, rfl⟩) (by decide) hch5 (am_in_nI (by omega) (by decide)) ?_
        rw [nI_clamp (by omega)]
        rw [hxs i e hxi]
        refine wp_step rfl rfl ?_
        refine wp_c0 rfl rfl (by decide) rfl (recv_ok h5.1 rfl) rfl (q_misNum (path := path) hb hR hP hE h5 hye (fun ck6 T6 J6 st6 li6 K6 hf6 hg6 hl6 hs6 => ?_))
        have hG6 := mGr_fr hG5 hf6 (fun j hj => by simp only [List.mem_cons, List.not_mem_nil, or_false] at hj; omega)
        have j6 := (hg6 49 (by decide)).trans j4
        have hf06 : fr [408, 425, 426, 427, 434, 435, 436, 437, 438, 439] S T6 := fr_trans hf05 (fr_mono hf6 (fun j hj => by simp only [List.mem_cons, List.not_mem_nil, or_false] at hj ⊢; omega))
        have hg06 : gf [19, 20, 21, 22, 24, 29, 33, 35, 36, 49, 57] I J6 := gf_trans hg04 (gf_mono hg6 (fun j hj => by simp only [List.mem_cons, List.not_mem_nil, or_false] at hj ⊢; omega))
        cases en2 : isNm b (ldE b tot re y path) with
        | false =>
          show wp X (d + 14) 159 66 [some (.ref 408), some (.int by_), some (.int path), some (.int (nI i)), some (.int (nI g))] [.int 0] T6 Q
          refine wp_if_t rfl rfl ?_
          exact nx gs5 P5 T6 J6 st6 li6 K6 _ (by rw [hgr, en2]; rfl) hf06 hg06 hl6.1 j6 hG6 hD5 hlen1 (gB_up hB5 (by omega))
        | true =>
          obtain ⟨o, el⟩ : ∃ o, ldE b tot re y path = some o := by
            cases el : ldE b tot re y path with
            | none => rw [el] at en2; exact absurd en2 (show ¬ (decide ((2 : Nat) ≤ 0 ∧ (0 : Nat) ≤ 7) = true) by decide)
            | some o => exact ⟨o, rfl⟩
          rw [el] at hs6
          show wp X (d + 14) 159 66 [some (.ref 408), some (.int by_), some (.int path), some (.int (nI i)), some (.int (nI g))] [.int 1] T6 Q
          refine wp_if_f rfl rfl ?_
          iterate 3 refine wp_step rfl rfl ?_
          refine wp_c0 rfl rfl (by decide) rfl (recv_ok hl6.1.1 rfl) rfl (q_mworth hb hl6 hs6 (fun T7 J7 hf7 hg7 hl7 => ?_))
          rw [wrV_O hl7.2.2.2, ← el]
          rw [if_pos en2] at hgr
          generalize wrO b tot re y (ldE b tot re y path) = w at hgr ⊢
          have hf07 : fr [408, 425, 426, 427, 434, 435, 436, 437, 438, 439] S T7 := fr_trans hf06 (fr_mono hf7 (fun j hj => by simp only [List.mem_cons, List.not_mem_nil, or_false] at hj ⊢; omega))
          have hg07 : gf [19, 20, 21, 22, 24, 29, 33, 35, 36, 49, 57] I J7 := gf_trans hg06 (gf_mono hg7 (fun j hj => by simp only [List.mem_cons, List.not_mem_nil, or_false] at hj ⊢; omega))
          have hG7 := mGr_fr hG6 hf7 (fun j hj => by simp only [List.mem_cons, List.not_mem_nil, or_false] at hj; omega)
          have j7 := (hg7 49 (by decide)).trans j6
          refine wp_c0 rfl rfl (by decide) rfl (recv_ok hl7.1.1 rfl) rfl (q_mjoin hl7.1.1 hG7 hD5 (by omega) hx5 hxB.2 (fun T8 P8 hf8 a8 hG8 hD8 => ?_))
          have h8 : mRc T8 J7 st6 li6 b v tot re M E C K6 := mRc_up (ks := []) hl7.1 hf8 (fun j hj => by simp only [List.mem_cons, List.not_mem_nil, or_false] at hj; omega) a8 (gf_refl _ _) (by decide) (by decide) (by decide) (mSk_fr hl7.1.2.2.2.2.2.2.2.2.2.2.2.2.2.2.2.2 hf8 (fun j hj => by simp only [List.mem_cons, List.not_mem_nil, or_false] at hj; omega))
          exact nx (gAdd g w gs5) P8 T8 J7 st6 li6 K6 _ hgr (fr_trans hf07 (fr_mono hf8 (fun j hj => by simp only [List.mem_cons, List.not_mem_nil, or_false] at hj ⊢; omega))) hg07 h8 (by rw [gAdd_len]; exact j7) hG8 hD8 (by rw [gAdd_len]; exact hlen1) (gB_up (gAdd_ok hB5) (by omega))
theorem q_mgroup {S : am_S} {I : Nat → Int32} {st li : Int64} {K : jMK} {xs : List Nat} {ch : Nat → Int32} {P : jGA} {by_ path : Int32} (hb : ∀ j, b j < 256) (hR : reQ b tot re) (hP : evP b tot re) (hE : evR b tot re) (h : mRc S I st li b v tot re M E C K) (h45 : I 45 = nI xs.length) (hch : am_get S 432 = some (iA 60 ch)) (hxs : chD ch xs) (hxe : ∀ e, e ∈ xs → e < re.2.1.length) (hx60 : xs.length ≤ 60) (hG : mGr S P) (hq : ∀ P' T J st' li' K', fr [408, 425, 426, 427, 434, 435, 436, 437, 438, 439] S T → gf [0, 19, 20, 21, 22, 24, 29, 33, 35, 36, 49, 57] I J → mRc T J st' li' b v tot re M E C K' → J 0 = 0 → J 49 = nI (grp b tot re by_ path xs).length → mGr T P' → gD P' (grp b tot re by_ path xs) → gB (grp b tot re by_ path xs) (2 * xs.length) → Q (.inl (some (.int (nI (grp b tot re by_ path xs).length))), T)) : ev X (d + 15) 159 [.ref 408, .int by_, .int path] S Q := by
  refine ev_wp (L0 := [some (.ref 408), some (.int by_), some (.int path), none, none]) (Nat.le_of_ble_eq_true rfl) rfl ?_
  iterate 2 refine wp_step rfl rfl ?_
  refine wp_putg rfl h.1 (by decide) rfl rfl ?_
  rw [mkG_i rfl]
  have h_Sx1 : am_get (am_upd S 408 (moC (upd I 0 (Int32.ofInt 0)) st li)) 408 = some (moC (upd I 0 (Int32.ofInt 0)) st li) := am_get_self h.1
  have hf_Sx1 : fr [408] S (am_upd S 408 (moC (upd I 0 (Int32.ofInt 0)) st li)) := fr_up (by simp)
  generalize am_upd S 408 (moC (upd I 0 (Int32.ofInt 0)) st li) = Sx1 at h_Sx1 hf_Sx1 ⊢
  iterate 2 refine wp_step rfl rfl ?_
  refine wp_putg rfl h_Sx1 (by decide) rfl rfl ?_
  rw [mkG_i rfl]
  have h_Sx2 : am_get (am_upd Sx1 408 (moC (upd (upd I 0 (Int32.ofInt 0)) 49 (Int32.ofInt 0)) st li)) 408 = some (moC (upd (upd I 0 (Int32.ofInt 0)) 49 (Int32.ofInt 0)) st li) := am_get_self h_Sx1
  have hf_Sx2 : fr [408] S (am_upd Sx1 408 (moC (upd (upd I 0 (Int32.ofInt 0)) 49 (Int32.ofInt 0)) st li)) := fr_trans hf_Sx1 (fr_up (by simp))
  generalize am_upd Sx1 408 (moC (upd (upd I 0 (Int32.ofInt 0)) 49 (Int32.ofInt 0)) st li) = Sx2 at h_Sx2 hf_Sx2 ⊢
  clear h_Sx1 hf_Sx1
  iterate 2 refine wp_step rfl rfl ?_
  have hg_J : gf [0, 49] I (upd (upd I 0 (Int32.ofInt 0)) 49 (Int32.ofInt 0)) := gf_up (gf_up (gf_refl _ _) (by simp)) (by simp)
  have J_0 : (upd (upd I 0 (Int32.ofInt 0)) 49 (Int32.ofInt 0)) 0 = 0 := (pk_un (by decide)).trans pk_us
  have J_49 : (upd (upd I 0 (Int32.ofInt 0)) 49 (Int32.ofInt 0)) 49 = nI 0 := pk_us
  have a_J := h_Sx2
  have hf_J := hf_Sx2
  clear h_Sx2 hf_Sx2
  generalize upd (upd I 0 (Int32.ofInt 0)) 49 (Int32.ofInt 0) = J at a_J hg_J J_0 J_49
  have h1 := mRc_1 (st' := st) (li' := li) h hf_J a_J hg_J (by decide) (by decide) (by decide)
  show wp X (d + 14) 159 12 [some (.ref 408), some (.int by_), some (.int path), some (.int (nI 0)), none] [] Sx2 Q
  exact mg_loop hb hR hP hE hx60 hxs hxe xs.length 0 [] P Sx2 J st li K none (by omega) (Nat.le_refl _) ⟨Nat.zero_le _, fun x hx => by cases hx⟩ h1 ((hg_J 45 (by decide)).trans h45) (by rw [fr_get hf_J (by decide)]; exact hch) J_49 (mGr_fr hG hf_J (fun j hj => by simp only [List.mem_cons, List.not_mem_nil, or_false] at hj; omega)) (fun j x hx => by simp at hx) (fun gs' P' T2 J2 st2 li2 K2 b1 b2 b3 b4 b5 b6 b7 b8 => by have hq0 := hq P' T2 J2 st2 li2 K2 (fr_trans (fr_mono hf_J (fun j hj => by simp only [List.mem_cons, List.not_mem_nil, or_false] at hj ⊢; omega)) b2) (gf_trans (gf_mono hg_J (fun j hj => by simp only [List.mem_cons, List.not_mem_nil, or_false] at hj ⊢; omega)) (gf_mono b3 (fun j hj => by simp only [List.mem_cons, List.not_mem_nil, or_false] at hj ⊢; omega))) b4 ((b3 0 (by decide)).trans J_0); rw [List.drop_zero] at b1; rw [show grp b tot re by_ path xs = gs' from b1.symm] at hq0; exact hq0 b5 b6 b7 b8)
set_option maxHeartbeats 1000000 in
theorem q_mgrouped {S : am_S} {I : Nat → Int32} {st li : Int64} {P : jGA} {gs : List jG} {gi what : Int32} (h : am_get S 408 = some (moC I st li)) (h49 : I 49 = nI gs.length) (hG : mGr S P) (hD : gD P gs) (hl : gs.length ≤ 60) (hB : ∀ x, x ∈ gs → x.2.1 < 2 ^ 31 ∧ x.2.2.1 < 2 ^ 31)
    (hret : ∀ k x q, idx gi gs.length = some k → gs[k]? = some x → what = nI q → q ≤ 5 → ∀ T J, fr [408] S T → gf [0] I J → am_get T 408 = some (moC J st li) → J 0 = 0 → Q (.inl (some (.long (gvl q x))), T))
    (hthr : idx gi gs.length = none → ∀ T J, fr [408] S T → gf [0] I J → am_get T 408 = some (moC J st li) → J 0 = 1 → Q (.inl (some (.long (0))), T))
    (hiae : ∀ k, idx gi gs.length = some k → (what.toInt < 0 ∨ (5 : Int) < what.toInt) → ∀ T J, fr [408] S T → gf [0] I J → am_get T 408 = some (moC J st li) → J 0 = 2 → Q (.inl (some (.long (0))), T)) : ev X (d + 1) 161 [.ref 408, .int gi, .int what] S Q := by
  refine ev_wp (L0 := [some (.ref 408), some (.int gi), some (.int what)]) (Nat.le_of_ble_eq_true rfl) rfl ?_
  iterate 2 refine wp_step rfl rfl ?_
  refine wp_if rfl (fun c0 => ?_) (fun c0 => ?_)
  · replace c0 := q_lt_t c0
    iterate 2 refine wp_step rfl rfl ?_
    refine wp_putg rfl h (by decide) rfl rfl ?_
    rw [mkG_i rfl]
    have h_Sx3 : am_get (am_upd S 408 (moC (upd I 0 (Int32.ofInt 1)) st li)) 408 = some (moC (upd I 0 (Int32.ofInt 1)) st li) := am_get_self h
    have hf_Sx3 : fr [408] S (am_upd S 408 (moC (upd I 0 (Int32.ofInt 1)) st li)) := fr_up (by simp)
    generalize am_upd S 408 (moC (upd I 0 (Int32.ofInt 1)) st li) = Sx3 at h_Sx3 hf_Sx3 ⊢
    have hg_J : gf [0] I (upd I 0 (Int32.ofInt 1)) := gf_up (gf_refl _ _) (by simp)
    have J_0 : (upd I 0 (Int32.ofInt 1)) 0 = 1 := pk_us
    have a_J := h_Sx3
    have hf_J := hf_Sx3
    clear h_Sx3 hf_Sx3
    generalize upd I 0 (Int32.ofInt 1) = J at a_J hg_J J_0
    refine wp_step rfl rfl ?_
    refine wp_getg (v := (.int 1)) rfl a_J (by decide) (congrArg Value.int J_0) ?_
    refine wp_if_f rfl rfl ?_
    refine wp_step rfl rfl ?_
    refine wp_lret rfl rfl (hthr (idx_neg c0) Sx3 J hf_J hg_J a_J J_0)
  · replace c0 := q_lt_f c0
    iterate 2 refine wp_step rfl rfl ?_
    refine wp_getg (v := (.int (nI gs.length))) rfl h (by decide) (congrArg Value.int h49) ?_
    refine wp_icmp rfl (fun c1 => ?_) (fun c1 => ?_)
    · replace c1 := i_lt_t c1
      obtain ⟨k, hk⟩ := idx_ok (by omega) c0 c1
      obtain ⟨rfl, hkl⟩ := idx_some hk (by omega)
      have hat : gs[k]? = some gs[k] := List.getElem?_eq_getElem hkl
      have hBx := hB gs[k] (List.getElem_mem hkl)
      generalize gs[k] = x at hat hBx
      obtain ⟨d1, d2, d3, d4, d5, d6⟩ := hD k x hat
      refine wp_step rfl rfl ?_
      refine wp_if rfl (fun c2 => ?_) (fun c2 => ?_)
      · replace c2 := q_lt_t c2
        iterate 2 refine wp_step rfl rfl ?_
        refine wp_putg rfl h (by decide) rfl rfl ?_
        rw [mkG_i rfl]
        have h_Sx5 : am_get (am_upd S 408 (moC (upd I 0 (Int32.ofInt 2)) st li)) 408 = some (moC (upd I 0 (Int32.ofInt 2)) st li) := am_get_self h
        have hf_Sx5 : fr [408] S (am_upd S 408 (moC (upd I 0 (Int32.ofInt 2)) st li)) := fr_up (by simp)
        generalize am_upd S 408 (moC (upd I 0 (Int32.ofInt 2)) st li) = Sx5 at h_Sx5 hf_Sx5 ⊢
        have hg_J : gf [0] I (upd I 0 (Int32.ofInt 2)) := gf_up (gf_refl _ _) (by simp)
        have J_0 : (upd I 0 (Int32.ofInt 2)) 0 = 2 := pk_us
        have a_J := h_Sx5
        have hf_J := hf_Sx5
        clear h_Sx5 hf_Sx5
        generalize upd I 0 (Int32.ofInt 2) = J at a_J hg_J J_0
        refine wp_step rfl rfl ?_
        refine wp_getg (v := (.int 2)) rfl a_J (by decide) (congrArg Value.int J_0) ?_
        refine wp_if_f rfl rfl ?_
        refine wp_step rfl rfl ?_
        refine wp_lret rfl rfl (hiae k hk (Or.inl (by rw [Int32.lt_iff_toInt_lt] at c2; simpa using c2)) Sx5 J hf_J hg_J a_J J_0)
      · replace c2 := q_lt_f c2
        obtain ⟨q, hq31, rfl⟩ := i32_nn c2
        iterate 2 refine wp_step rfl rfl ?_
        refine wp_icmp rfl (fun c3 => ?_) (fun c3 => ?_)
        · replace c3 := n_le_t (a := q) (b := 5) (by omega) (by omega) c3
          refine wp_step rfl rfl ?_
          refine wp_putg rfl h (by decide) rfl rfl ?_
          rw [mkG_i rfl]
          have h_Sx7 : am_get (am_upd S 408 (moC (upd I 0 (Int32.ofInt 0)) st li)) 408 = some (moC (upd I 0 (Int32.ofInt 0)) st li) := am_get_self h
          have hf_Sx7 : fr [408] S (am_upd S 408 (moC (upd I 0 (Int32.ofInt 0)) st li)) := fr_up (by simp)
          generalize am_upd S 408 (moC (upd I 0 (Int32.ofInt 0)) st li) = Sx7 at h_Sx7 hf_Sx7 ⊢
          have hg_J : gf [0] I (upd I 0 (Int32.ofInt 0)) := gf_up (gf_refl _ _) (by simp)
          have J_0 : (upd I 0 (Int32.ofInt 0)) 0 = 0 := pk_us
          have a_J := h_Sx7
          have hf_J := hf_Sx7
          clear h_Sx7 hf_Sx7
          generalize upd I 0 (Int32.ofInt 0) = J at a_J hg_J J_0
          refine wp_step rfl rfl ?_
          refine wp_getg (v := (.int 0)) rfl a_J (by decide) (congrArg Value.int J_0) ?_
          refine wp_if_t rfl rfl ?_
          have hG2 := mGr_fr hG hf_J (fun j hj => by simp only [List.mem_cons, List.not_mem_nil, or_false] at hj; omega)
          have hq0 := hret k x q hk hat rfl (by omega) Sx7 J hf_J hg_J a_J J_0
          unfold gvl at hq0
          iterate 2 refine wp_step rfl rfl ?_
          refine wp_icmp rfl (fun e0 => ?_) (fun e0 => ?_)
          · replace e0 := n_ge_t (a := q) (b := 3) (by omega) (by omega) e0
            iterate 2 refine wp_step rfl rfl ?_
            refine wp_icmp rfl (fun e1 => ?_) (fun e1 => ?_)
            · replace e1 := n_ne_t (a := q) (b := 3) (by omega) (by omega) e1
              iterate 2 refine wp_step rfl rfl ?_
              refine wp_icmp rfl (fun e2 => ?_) (fun e2 => ?_)
              · replace e2 := n_ne_t (a := q) (b := 4) (by omega) (by omega) e2
                rw [if_neg (by omega), if_neg (by omega), if_neg (by omega), if_neg (by omega), if_neg (by omega)] at hq0
                refine wp_step rfl rfl ?_
                refine wp_getg rfl a_J (by decide) rfl ?_
                refine wp_step rfl rfl ?_
                refine wp_lald rfl (by decide) hG2.2.2.2.2.2 (am_in_nI (by omega) (by decide)) ?_
                rw [nI_clamp (by omega)]
                rw [d6]
                refine wp_lret rfl rfl hq0
              · replace e2 := n_ne_f (a := q) (b := 4) (by omega) (by omega) e2
                rw [if_neg (by omega), if_neg (by omega), if_neg (by omega), if_neg (by omega), if_pos e2] at hq0
                refine wp_step rfl rfl ?_
                refine wp_getg rfl a_J (by decide) rfl ?_
                refine wp_step rfl rfl ?_
                refine wp_lald rfl (by decide) hG2.2.2.2.2.1 (am_in_nI (by omega) (by decide)) ?_
                rw [nI_clamp (by omega)]
                rw [d5]
                refine wp_step rfl rfl ?_
                refine wp_lret rfl rfl hq0
            · replace e1 := n_ne_f (a := q) (b := 3) (by omega) (by omega) e1
              rw [if_neg (by omega), if_neg (by omega), if_neg (by omega), if_pos e1] at hq0
              refine wp_step rfl rfl ?_
              refine wp_getg rfl a_J (by decide) rfl ?_
              refine wp_step rfl rfl ?_
              refine wp_lald rfl (by decide) hG2.2.2.2.1 (am_in_nI (by omega) (by decide)) ?_
              rw [nI_clamp (by omega)]
              rw [d4]
              refine wp_step rfl rfl ?_
              refine wp_lret rfl rfl hq0
          · replace e0 := n_ge_f (a := q) (b := 3) (by omega) (by omega) e0
            refine wp_step rfl rfl ?_
            refine wp_if rfl (fun e1 => ?_) (fun e1 => ?_)
            · replace e1 := z_ne_t (a := q) (by omega) e1
              iterate 2 refine wp_step rfl rfl ?_
              refine wp_icmp rfl (fun e2 => ?_) (fun e2 => ?_)
              · replace e2 := n_ne_t (a := q) (b := 1) (by omega) (by omega) e2
                rw [if_neg e1, if_neg e2, if_pos (show q = 2 by omega)] at hq0
                refine wp_step rfl rfl ?_
                refine wp_getg rfl a_J (by decide) rfl ?_
                refine wp_step rfl rfl ?_
                refine wp_ald rfl (Or.inl ⟨rfl, rfl⟩) (by decide) hG2.2.2.1 (am_in_nI (by omega) (by decide)) ?_
                rw [nI_clamp (by omega)]
                rw [d3]
                refine wp_step rfl rfl ?_
                rw [nI_l (by omega)]
                refine wp_lret rfl rfl hq0
              · replace e2 := n_ne_f (a := q) (b := 1) (by omega) (by omega) e2
                rw [if_neg e1, if_pos e2] at hq0
                refine wp_step rfl rfl ?_
                refine wp_getg rfl a_J (by decide) rfl ?_
                refine wp_step rfl rfl ?_
                refine wp_ald rfl (Or.inl ⟨rfl, rfl⟩) (by decide) hG2.2.1 (am_in_nI (by omega) (by decide)) ?_
                rw [nI_clamp (by omega)]
                rw [d2]
                refine wp_step rfl rfl ?_
                rw [nI_l (by omega)]
                refine wp_step rfl rfl ?_
                refine wp_lret rfl rfl hq0
            · replace e1 := z_ne_f (a := q) (by omega) e1
              rw [if_pos e1] at hq0
              refine wp_step rfl rfl ?_
              refine wp_getg rfl a_J (by decide) rfl ?_
              refine wp_step rfl rfl ?_
              refine wp_lald rfl (by decide) hG2.1 (am_in_nI (by omega) (by decide)) ?_
              rw [nI_clamp (by omega)]
              rw [d1]
              refine wp_step rfl rfl ?_
              refine wp_lret rfl rfl hq0
        · replace c3 := n_le_f (a := q) (b := 5) (by omega) (by omega) c3
          iterate 2 refine wp_step rfl rfl ?_
          refine wp_putg rfl h (by decide) rfl rfl ?_
          rw [mkG_i rfl]
          have h_Sx6 : am_get (am_upd S 408 (moC (upd I 0 (Int32.ofInt 2)) st li)) 408 = some (moC (upd I 0 (Int32.ofInt 2)) st li) := am_get_self h
          have hf_Sx6 : fr [408] S (am_upd S 408 (moC (upd I 0 (Int32.ofInt 2)) st li)) := fr_up (by simp)
          generalize am_upd S 408 (moC (upd I 0 (Int32.ofInt 2)) st li) = Sx6 at h_Sx6 hf_Sx6 ⊢
          have hg_J : gf [0] I (upd I 0 (Int32.ofInt 2)) := gf_up (gf_refl _ _) (by simp)
          have J_0 : (upd I 0 (Int32.ofInt 2)) 0 = 2 := pk_us
          have a_J := h_Sx6
          have hf_J := hf_Sx6
          clear h_Sx6 hf_Sx6
          generalize upd I 0 (Int32.ofInt 2) = J at a_J hg_J J_0
          refine wp_step rfl rfl ?_
          refine wp_getg (v := (.int 2)) rfl a_J (by decide) (congrArg Value.int J_0) ?_
          refine wp_if_f rfl rfl ?_
          refine wp_step rfl rfl ?_
          refine wp_lret rfl rfl (hiae k hk (Or.inr (by rw [nI_toInt hq31]; omega)) Sx6 J hf_J hg_J a_J J_0)
    · replace c1 := i_lt_f c1
      iterate 2 refine wp_step rfl rfl ?_
      refine wp_putg rfl h (by decide) rfl rfl ?_
      rw [mkG_i rfl]
      have h_Sx4 : am_get (am_upd S 408 (moC (upd I 0 (Int32.ofInt 1)) st li)) 408 = some (moC (upd I 0 (Int32.ofInt 1)) st li) := am_get_self h
      have hf_Sx4 : fr [408] S (am_upd S 408 (moC (upd I 0 (Int32.ofInt 1)) st li)) := fr_up (by simp)
      generalize am_upd S 408 (moC (upd I 0 (Int32.ofInt 1)) st li) = Sx4 at h_Sx4 hf_Sx4 ⊢
      have hg_J : gf [0] I (upd I 0 (Int32.ofInt 1)) := gf_up (gf_refl _ _) (by simp)
      have J_0 : (upd I 0 (Int32.ofInt 1)) 0 = 1 := pk_us
      have a_J := h_Sx4
      have hf_J := hf_Sx4
      clear h_Sx4 hf_Sx4
      generalize upd I 0 (Int32.ofInt 1) = J at a_J hg_J J_0
      refine wp_step rfl rfl ?_
      refine wp_getg (v := (.int 1)) rfl a_J (by decide) (congrArg Value.int J_0) ?_
      refine wp_if_f rfl rfl ?_
      refine wp_step rfl rfl ?_
      refine wp_lret rfl rfl (hthr (idx_ge (by omega) c1) Sx4 J hf_J hg_J a_J J_0)
end MGROUP2
