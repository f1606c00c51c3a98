/-! THE MODEL: isNumber, passes, select -/
section MSELECT
variable {X : Nat × (Nat → Int32)} {d : Nat} {Q : am_R → Prop} {b : Nat → Nat} {v tot : Nat} {re : jRe} {M : jMT} {E : jME} {C : jMC}
theorem wrV_O {ck : jCk} {y : jEv} {o : Option jV} (h : re.2.2[y.1]? = some ck) : wrV ck.2.2.1 b tot o = wrO b tot re y (some o) := by
  unfold wrO wrE wrV
  dsimp only
  cases o with
  | none => rfl
  | some w => dsimp only; rw [h]
/-- the model holds a filter -/
def flM (S : am_S) (I : Nat → Int32) (P : jFA) (nm : Nat) (cm : List jC) : Prop := am_get S 429 = some (iA 12 P.1) ∧ am_get S 430 = some (iA 12 P.2.1) ∧ am_get S 431 = some (lA 12 P.2.2) ∧ flD P cm.reverse ∧ I 40 = nI nm ∧ I 41 = nI cm.length ∧ nm < 65536 ∧ cm.length ≤ 11 ∧ ∀ x, x ∈ cm → x.2.1 < 65536
theorem flM_up {S T : am_S} {I J : Nat → Int32} {P : jFA} {nm : Nat} {cm : List jC} {js ks : List Nat} (h : flM S I P nm cm) (hf : fr js S T) (hj : 429 ∉ js ∧ 430 ∉ js ∧ 431 ∉ js) (hg : gf ks I J) (h40 : 40 ∉ ks) (h41 : 41 ∉ ks) : flM T J P nm cm :=
  ⟨by rw [fr_get hf hj.1]; exact h.1, by rw [fr_get hf hj.2.1]; exact h.2.1, by rw [fr_get hf hj.2.2]; exact h.2.2.1, h.2.2.2.1, (hg 40 h40).trans h.2.2.2.2.1, (hg 41 h41).trans h.2.2.2.2.2.1, h.2.2.2.2.2.2⟩
theorem q_misNum {S : am_S} {I : Nat → Int32} {st li : Int64} {K : jMK} {k : Nat} {y : jEv} {path : Int32} (hb : ∀ j, b j < 256) (hR : reQ b tot re) (hP : evP b tot re) (hE : evR b tot re) (h : mRc S I st li b v tot re M E C K) (hy : re.2.1[k]? = some y) (hq : ∀ ck T J st' li' K', fr [408, 425, 426, 427] S T → gf [19, 20, 21, 22, 24, 29, 33, 35, 36, 57] I J → lkS T J st' li' b v tot re M E C K' y.1 ck → spR ck.2.2.1 b tot J st' (ldE b tot re y path) → Q (.inl (some (.int (bI (isNm b (ldE b tot re y path))))), T)) : ev X (d + 14) 150 [.ref 408, .int (nI k), .int path] S Q := by
  refine ev_wp (L0 := [some (.ref 408), some (.int (nI k)), some (.int path), none]) (Nat.le_of_ble_eq_true rfl) rfl ?_
  iterate 3 refine wp_step rfl rfl ?_
  refine wp_c0 rfl rfl (by decide) rfl (recv_ok h.1 rfl) rfl (q_mlead (path := path) hb hR hP hE h hy (fun ck T J st2 li2 K2 hf2 hg2 hl2 hs2 => ?_))
  obtain ⟨hci, hv, htot, hT, hmck, hC⟩ := lkS_sl hl2
  have hkp : kdR b (ldE b tot re y path) < 14 := by
    cases el : ldE b tot re y path with
    | none => show (0 : Nat) < 14; decide
    | some o =>
      rw [el] at hs2
      cases o with
      | none => show (1 : Nat) < 14; decide
      | some w => exact (kdOf_pos hmck.1 hs2.2.2.2.2.2).2
  have hq2 := hq ck T J st2 li2 K2 hf2 hg2 hl2 hs2
  unfold isNm at hq2
  refine wp_step rfl rfl ?_
  show wp X (d + 13) 150 7 [some (.ref 408), some (.int (nI k)), some (.int path), some (.int (nI (kdR b (ldE b tot re y path))))] [] T Q
  generalize kdR b (ldE b tot re y path) = n at hkp hq2 ⊢
  iterate 2 refine wp_step rfl rfl ?_
  refine wp_icmp rfl (fun c0 => ?_) (fun c0 => ?_)
  · replace c0 := n_lt_t (a := n) (b := 2) (by omega) (by omega) c0
    rw [decide_eq_false (by omega)] at hq2
    refine wp_step rfl rfl ?_
    refine wp_iret rfl rfl rfl hq2
  · replace c0 := n_lt_f (a := n) (b := 2) (by omega) (by omega) c0
    iterate 2 refine wp_step rfl rfl ?_
    refine wp_icmp rfl (fun c1 => ?_) (fun c1 => ?_)
    · replace c1 := n_gt_t (a := n) (b := 7) (by omega) (by omega) c1
      rw [decide_eq_false (by omega)] at hq2
      refine wp_step rfl rfl ?_
      refine wp_iret rfl rfl rfl hq2
    · replace c1 := n_gt_f (a := n) (b := 7) (by omega) (by omega) c1
      rw [decide_eq_true ⟨by omega, by omega⟩] at hq2
      iterate 2 refine wp_step rfl rfl ?_
      refine wp_iret rfl rfl rfl hq2
theorem ps_z {S : am_S} {I : Nat → Int32} {st li : Int64} {n i e : Nat} {x4 x5 x6 : Option Value} (h : am_get S 408 = some (moC I st li)) (h41 : I 41 = nI n) (hi : i < 2 ^ 31) (hn : n < 2 ^ 31) (hq : Q (.inl (some (.int 0)), S)) : wp X d 151 41 [some (.ref 408), some (.int (nI e)), some (.int (bI false)), some (.int (nI i)), x4, x5, x6] [] S Q := by
  iterate 2 refine wp_step rfl rfl ?_
  refine wp_getg (v := (.int (nI n))) rfl h (by decide) (congrArg Value.int h41) ?_
  refine wp_icmp rfl (fun c0 => ?_) (fun c0 => ?_)
  · replace c0 := n_ge_t (a := i) (b := n) (by omega) (by omega) c0
    refine wp_step rfl rfl ?_
    refine wp_iret rfl rfl rfl hq
  · replace c0 := n_ge_f (a := i) (b := n) (by omega) (by omega) c0
    refine wp_step rfl rfl ?_
    refine wp_if_t rfl rfl ?_
    refine wp_step rfl rfl ?_
    refine wp_iret rfl rfl rfl hq
set_option maxHeartbeats 2000000 in
theorem mp_loop {P : jFA} {nm : Nat} {cm : List jC} {e : Nat} {y : jEv} (hb : ∀ j, b j < 256) (hR : reQ b tot re) (hP : evP b tot re) (hE : evR b tot re) (hy : re.2.1[e]? = some y) : ∀ (m i : Nat) (S : am_S) (I : Nat → Int32) (st li : Int64) (K : jMK) (x4 x5 x6 : Option Value), i + m = cm.length → mRc S I st li b v tot re M E C K → flM S I P nm cm → (∀ T J st' li' K', fr [408, 425, 426, 427] S T → gf [19, 20, 21, 22, 24, 29, 33, 35, 36, 57] I J → mRc T J st' li' b v tot re M E C K' → Q (.inl (some (.int (bI ((cm.drop i).all (cmOK b tot re y))))), T)) → wp X (d + 14) 151 41 [some (.ref 408), some (.int (nI e)), some (.int (bI true)), some (.int (nI i)), x4, x5, x6] [] S Q := by
  intro m
  induction m with
  | zero =>
    intro i S I st li K x4 x5 x6 him h hF hq
    have h11 := hF.2.2.2.2.2.2.2.1
    obtain rfl : i = cm.length := by omega
    iterate 2 refine wp_step rfl rfl ?_
    refine wp_getg (v := (.int (nI cm.length))) rfl h.1 (by decide) (congrArg Value.int hF.2.2.2.2.2.1) ?_
    refine wp_icmp rfl (fun c0 => ?_) (fun c0 => ?_)
    · replace c0 := n_ge_t (a := cm.length) (b := cm.length) (by omega) (by omega) c0
      have hq0 := hq S I st li K (fr_refl _ _) (gf_refl _ _) h
      rw [List.drop_eq_nil_of_le (Nat.le_refl _)] at hq0
      refine wp_step rfl rfl ?_
      refine wp_iret rfl rfl rfl hq0
    · replace c0 := n_ge_f (a := cm.length) (b := cm.length) (by omega) (by omega) c0
      omega
  | succ m ih =>
    intro i S I st li K x4 x5 x6 him h hF hq
    have h11 := hF.2.2.2.2.2.2.2.1
    iterate 2 refine wp_step rfl rfl ?_
    refine wp_getg (v := (.int (nI cm.length))) rfl h.1 (by decide) (congrArg Value.int hF.2.2.2.2.2.1) ?_
    refine wp_icmp rfl (fun c0 => ?_) (fun c0 => ?_)
    · replace c0 := n_ge_t (a := i) (b := cm.length) (by omega) (by omega) c0
      omega
    · replace c0 := n_ge_f (a := i) (b := cm.length) (by omega) (by omega) c0
      refine wp_step rfl rfl ?_
      refine wp_if_f rfl rfl ?_
      have hil : i < cm.length := by omega
      have hxi : cm[i]? = some cm[i] := List.getElem?_eq_getElem hil
      have hdr : cm.drop i = cm[i] :: cm.drop (i + 1) := List.drop_eq_getElem_cons hil
      generalize cm[i] = x at hxi hdr
      have hx16 := hF.2.2.2.2.2.2.2.2 x (List.mem_of_getElem? hxi)
      obtain ⟨f1, f2, f3⟩ := flD_at hF.2.2.2.1 i x (by rw [List.reverse_reverse]; exact hxi)
      iterate 3 refine wp_step rfl rfl ?_
      refine wp_getg rfl h.1 (by decide) rfl ?_
      refine wp_step rfl rfl ?_
      refine wp_ald rfl (Or.inl ⟨rfl, rfl⟩) (by decide) hF.1 (am_in_nI (by omega) (by decide)) ?_
      rw [nI_clamp (by omega)]
      rw [f1]
      refine wp_c0 rfl rfl (by decide) rfl (recv_ok h.1 rfl) rfl (q_misNum (path := x.1) hb hR hP hE h hy (fun ck T J st2 li2 K2 hf2 hg2 hl2 hs2 => ?_))
      have hF2 := flM_up hF hf2 (by decide) hg2 (by decide) (by decide)
      have hend : ∀ (g : Bool) T3 J3 st3 li3 K3 (x4 x5 x6 : Option Value), cmOK b tot re y x = g → fr [408, 425, 426, 427] S T3 → gf [19, 20, 21, 22, 24, 29, 33, 35, 36, 57] I J3 → mRc T3 J3 st3 li3 b v tot re M E C K3 → flM T3 J3 P nm cm → wp X (d + 14) 151 41 [some (.ref 408), some (.int (nI e)), some (.int (bI g)), some (.int (nI (i + 1))), x4, x5, x6] [] T3 Q := by
        intro g T3 J3 st3 li3 K3 x4 x5 x6 hg hf3 hg3 h3 hF3
        cases g with
        | true => exact ih (i + 1) T3 J3 st3 li3 K3 x4 x5 x6 (by omega) h3 hF3 (fun T4 J4 st4 li4 K4 a1 a2 a3 => by have hq0 := hq T4 J4 st4 li4 K4 (fr_trans hf3 a1) (gf_trans hg3 a2) a3; rw [hdr, List.all_cons, hg, Bool.true_and] at hq0; exact hq0)
        | false => exact ps_z h3.1 hF3.2.2.2.2.2.1 (by omega) (by omega) (by have hq0 := hq T3 J3 st3 li3 K3 hf3 hg3 h3; rw [hdr, List.all_cons, hg, Bool.false_and] at hq0; exact hq0)
      cases en : isNm b (ldE b tot re y x.1) with
      | false =>
        refine wp_step rfl rfl ?_
        show wp X (d + 14) 151 65 [some (.ref 408), some (.int (nI e)), some (.int (bI false)), some (.int (nI i)), x4, x5, x6] [] T Q
        refine wp_step rfl rfl ?_
        refine wp_if_t rfl rfl ?_
        iterate 2 refine wp_step rfl rfl ?_
        show wp X (d + 14) 151 79 [some (.ref 408), some (.int (nI e)), some (.int (bI false)), some (.int (nI i)), some (.long 0), none, x6] [] T Q
        refine wp_step rfl rfl ?_
        refine wp_getg rfl hl2.1.1 (by decide) rfl ?_
        refine wp_step rfl rfl ?_
        refine wp_ald rfl (Or.inl ⟨rfl, rfl⟩) (by decide) hF2.2.1 (am_in_nI (by omega) (by decide)) ?_
        rw [nI_clamp (by omega)]
        rw [f2]
        refine wp_step rfl rfl ?_
        show wp X (d + 14) 151 87 [some (.ref 408), some (.int (nI e)), some (.int (bI false)), some (.int (nI i)), some (.long 0), none, some (.int (nI x.2.1))] [] T Q
        refine wp_step rfl rfl ?_
        refine wp_if_t rfl rfl ?_
        iterate 4 refine wp_step rfl rfl ?_
        rw [show nI i + Int32.ofInt 1 = nI (i + 1) from nI_add i 1]
        exact hend false T J st2 li2 K2 _ _ _ (by unfold cmOK; rw [en, Bool.false_and]) hf2 hg2 hl2.1 hF2
      | true =>
        obtain ⟨o, el⟩ : ∃ o, ldE b tot re y x.1 = some o := by
          cases el : ldE b tot re y x.1 with
          | none => rw [el] at en; exact absurd en (show ¬ (decide ((2 : Nat) ≤ 0 ∧ (0 : Nat) ≤ 7) = true) by decide)
          | some o => exact ⟨o, rfl⟩
        rw [el] at hs2
        refine wp_step rfl rfl ?_
        show wp X (d + 14) 151 65 [some (.ref 408), some (.int (nI e)), some (.int (bI true)), some (.int (nI i)), x4, x5, x6] [] T Q
        refine wp_step rfl rfl ?_
        refine wp_if_f rfl rfl ?_
        refine wp_step rfl rfl ?_
        refine wp_c0 rfl rfl (by decide) rfl (recv_ok hl2.1.1 rfl) rfl (q_mworth hb hl2 hs2 (fun T3 J3 hf3 hg3 hl3 => ?_))
        have hF3 := flM_up hF2 hf3 (by decide) hg3 (by decide) (by decide)
        have hf03 : fr [408, 425, 426, 427] S T3 := fr_trans hf2 (fr_mono hf3 (fun j hj => by simp only [List.mem_cons, List.not_mem_nil, or_false] at hj ⊢; omega))
        have hg03 : gf [19, 20, 21, 22, 24, 29, 33, 35, 36, 57] I J3 := gf_trans hg2 (gf_mono hg3 (fun j hj => by simp only [List.mem_cons, List.not_mem_nil, or_false] at hj ⊢; omega))
        rw [wrV_O hl3.2.2.2, ← el]
        have hcm : cmOK b tot re y x = hld x.2.1 (wrO b tot re y (ldE b tot re y x.1)) x.2.2 := by unfold cmOK; rw [en, Bool.true_and]
        generalize wrO b tot re y (ldE b tot re y x.1) = w9 at hcm ⊢
        iterate 2 refine wp_step rfl rfl ?_
        show wp X (d + 14) 151 79 [some (.ref 408), some (.int (nI e)), some (.int (bI true)), some (.int (nI i)), some (.long w9), none, x6] [] T3 Q
        refine wp_step rfl rfl ?_
        refine wp_getg rfl hl3.1.1 (by decide) rfl ?_
        refine wp_step rfl rfl ?_
        refine wp_ald rfl (Or.inl ⟨rfl, rfl⟩) (by decide) hF3.2.1 (am_in_nI (by omega) (by decide)) ?_
        rw [nI_clamp (by omega)]
        rw [f2]
        refine wp_step rfl rfl ?_
        show wp X (d + 14) 151 87 [some (.ref 408), some (.int (nI e)), some (.int (bI true)), some (.int (nI i)), some (.long w9), none, some (.int (nI x.2.1))] [] T3 Q
        refine wp_step rfl rfl ?_
        refine wp_if_f rfl rfl ?_
        iterate 2 refine wp_step rfl rfl ?_
        refine wp_icmp rfl (fun c1 => ?_) (fun c1 => ?_)
        · replace c1 := n_ne_t (a := x.2.1) (b := 61) (by omega) (by omega) c1
          iterate 2 refine wp_step rfl rfl ?_
          refine wp_icmp rfl (fun c2 => ?_) (fun c2 => ?_)
          · replace c2 := n_ne_t (a := x.2.1) (b := 35) (by omega) (by omega) c2
            iterate 2 refine wp_step rfl rfl ?_
            refine wp_icmp rfl (fun c3 => ?_) (fun c3 => ?_)
            · replace c3 := n_ne_t (a := x.2.1) (b := 60) (by omega) (by omega) c3
              iterate 2 refine wp_step rfl rfl ?_
              refine wp_getg rfl hl3.1.1 (by decide) rfl ?_
              refine wp_step rfl rfl ?_
              refine wp_lald rfl (by decide) hF3.2.2.1 (am_in_nI (by omega) (by decide)) ?_
              rw [nI_clamp (by omega)]
              rw [f3]
              refine wp_step rfl rfl ?_
              refine wp_if rfl (fun c4 => ?_) (fun c4 => ?_)
              · replace c4 := l_le_t c4
                iterate 4 refine wp_step rfl rfl ?_
                rw [show nI i + Int32.ofInt 1 = nI (i + 1) from nI_add i 1]
                exact hend false T3 J3 st2 li2 K2 _ _ _ (by rw [hcm]; unfold hld; rw [if_neg c1, if_neg c2, if_neg c3]; exact decide_eq_false (Int64.not_lt.mpr c4)) hf03 hg03 hl3.1 hF3
              · replace c4 := l_le_f c4
                iterate 5 refine wp_step rfl rfl ?_
                rw [show nI i + Int32.ofInt 1 = nI (i + 1) from nI_add i 1]
                exact hend true T3 J3 st2 li2 K2 _ _ _ (by rw [hcm]; unfold hld; rw [if_neg c1, if_neg c2, if_neg c3]; exact decide_eq_true (Int64.not_le.mp c4)) hf03 hg03 hl3.1 hF3
            · replace c3 := n_ne_f (a := x.2.1) (b := 60) (by omega) (by omega) c3
              iterate 2 refine wp_step rfl rfl ?_
              refine wp_getg rfl hl3.1.1 (by decide) rfl ?_
              refine wp_step rfl rfl ?_
              refine wp_lald rfl (by decide) hF3.2.2.1 (am_in_nI (by omega) (by decide)) ?_
              rw [nI_clamp (by omega)]
              rw [f3]
              refine wp_step rfl rfl ?_
              refine wp_if rfl (fun c4 => ?_) (fun c4 => ?_)
              · replace c4 := l_ge_t c4
                iterate 4 refine wp_step rfl rfl ?_
                rw [show nI i + Int32.ofInt 1 = nI (i + 1) from nI_add i 1]
                exact hend false T3 J3 st2 li2 K2 _ _ _ (by rw [hcm]; unfold hld; rw [if_neg c1, if_neg c2, if_pos c3]; exact decide_eq_false (Int64.not_lt.mpr c4)) hf03 hg03 hl3.1 hF3
              · replace c4 := l_ge_f c4
                iterate 6 refine wp_step rfl rfl ?_
                rw [show nI i + Int32.ofInt 1 = nI (i + 1) from nI_add i 1]
                exact hend true T3 J3 st2 li2 K2 _ _ _ (by rw [hcm]; unfold hld; rw [if_neg c1, if_neg c2, if_pos c3]; exact decide_eq_true (Int64.not_le.mp c4)) hf03 hg03 hl3.1 hF3
          · replace c2 := n_ne_f (a := x.2.1) (b := 35) (by omega) (by omega) c2
            iterate 2 refine wp_step rfl rfl ?_
            refine wp_getg rfl hl3.1.1 (by decide) rfl ?_
            refine wp_step rfl rfl ?_
            refine wp_lald rfl (by decide) hF3.2.2.1 (am_in_nI (by omega) (by decide)) ?_
            rw [nI_clamp (by omega)]
            rw [f3]
            refine wp_step rfl rfl ?_
            refine wp_if rfl (fun c4 => ?_) (fun c4 => ?_)
            · replace c4 := l_eq_t c4
              iterate 4 refine wp_step rfl rfl ?_
              rw [show nI i + Int32.ofInt 1 = nI (i + 1) from nI_add i 1]
              exact hend false T3 J3 st2 li2 K2 _ _ _ (by rw [hcm]; unfold hld; rw [if_neg c1, if_pos c2]; exact decide_eq_false (fun h9 => h9 c4)) hf03 hg03 hl3.1 hF3
            · replace c4 := l_eq_f c4
              iterate 6 refine wp_step rfl rfl ?_
              rw [show nI i + Int32.ofInt 1 = nI (i + 1) from nI_add i 1]
              exact hend true T3 J3 st2 li2 K2 _ _ _ (by rw [hcm]; unfold hld; rw [if_neg c1, if_pos c2]; exact decide_eq_true c4) hf03 hg03 hl3.1 hF3
        · replace c1 := n_ne_f (a := x.2.1) (b := 61) (by omega) (by omega) c1
          iterate 2 refine wp_step rfl rfl ?_
          refine wp_getg rfl hl3.1.1 (by decide) rfl ?_
          refine wp_step rfl rfl ?_
          refine wp_lald rfl (by decide) hF3.2.2.1 (am_in_nI (by omega) (by decide)) ?_
          rw [nI_clamp (by omega)]
          rw [f3]
          refine wp_step rfl rfl ?_
          refine wp_if rfl (fun c4 => ?_) (fun c4 => ?_)
          · replace c4 := l_ne_t c4
            iterate 4 refine wp_step rfl rfl ?_
            rw [show nI i + Int32.ofInt 1 = nI (i + 1) from nI_add i 1]
            exact hend false T3 J3 st2 li2 K2 _ _ _ (by rw [hcm]; unfold hld; rw [if_pos c1]; exact decide_eq_false c4) hf03 hg03 hl3.1 hF3
          · replace c4 := l_ne_f c4
            iterate 6 refine wp_step rfl rfl ?_
            rw [show nI i + Int32.ofInt 1 = nI (i + 1) from nI_add i 1]
            exact hend true T3 J3 st2 li2 K2 _ _ _ (by rw [hcm]; unfold hld; rw [if_pos c1]; exact decide_eq_true c4) hf03 hg03 hl3.1 hF3
set_option maxHeartbeats 1000000 in
theorem q_mpasses {S : am_S} {I : Nat → Int32} {st li : Int64} {K : jMK} {P : jFA} {nm : Nat} {cm : List jC} {e : Nat} {y : jEv} (hb : ∀ j, b j < 256) (hR : reQ b tot re) (hP : evP b tot re) (hE : evR b tot re) (h : mRc S I st li b v tot re M E C K) (hF : flM S I P nm cm) (hy : re.2.1[e]? = some y) (hq : ∀ T J st' li' K', fr [408, 425, 426, 427] S T → gf [19, 20, 21, 22, 24, 29, 33, 35, 36, 57] I J → mRc T J st' li' b v tot re M E C K' → Q (.inl (some (.int (bI (psE b tot re nm cm y)))), T)) : ev X (d + 15) 151 [.ref 408, .int (nI e)] S Q := by
  refine ev_wp (L0 := [some (.ref 408), some (.int (nI e)), none, none, none, none, none]) (Nat.le_of_ble_eq_true rfl) rfl ?_
  iterate 2 refine wp_step rfl rfl ?_
  refine wp_c0 rfl rfl (by decide) rfl (recv_ok h.1 rfl) rfl (q_mgo hb h hP hy (fun ck len p1 p2 T J hck hkd eh en hf1 hg1 h20 h57 h1 hc1 => ?_))
  have hl1 : lkS T J st (lN y.2.2.2.1) b v tot re M E C K y.1 ck := ⟨hc1, h1.2.2.1, h20, hck⟩
  have hho := hd_ok eh
  obtain ⟨hci, hv, htot, hT, hmck, hC⟩ := lkS_sl hl1
  have hid31 : y.2.2.2.1 < 2 ^ 31 := hho.2.2.2.2.2.1
  have hF1 := flM_up hF hf1 (by decide) hg1 (by decide) (by decide)
  have hn16 := hF.2.2.2.2.2.2.1
  obtain ⟨t, x, ht, hx, hx1⟩ := hkd
  have h16 := tix_ten hmck.1 ht
  have hok := (wf_ty hmck.1 hx).1
  unfold tyOK at hok
  obtain ⟨_, hnm, _, _⟩ := hT.2 t x hx
  have hevN : evN b tot re y = lN x.2.1 := by
    have hkd11 : kdOf b (y.2.2.2.1, 0, y.2.2.2.2.1) = 11 := by
      unfold kdOf
      rw [if_neg (show ¬ 2 ≤ 0 by decide), if_neg (show ¬ (0 : Nat) = 1 by decide), if_neg (by dsimp only; omega), if_neg (by dsimp only; omega)]
    unfold evN wrE
    dsimp only
    rw [hck]
    dsimp only
    unfold wrOf
    rw [if_neg (by omega), if_neg (by omega), if_pos hkd11, ht]
    dsimp only
    rw [hx]
  have hgo : ∀ g : Bool, (decide (nm = 0) || decide (evN b tot re y = lN nm)) = g → wp X (d + 14) 151 38 [some (.ref 408), some (.int (nI e)), none, none, none, none, none] [.int (bI g)] T Q := by
    intro g hg
  
    iterate 3 refine wp_step rfl rfl ?_
    show wp X (d + 14) 151 41 [some (.ref 408), some (.int (nI e)), some (.int (bI g)), some (.int (nI 0)), none, none, none] [] T Q
    cases g with
    | true => exact mp_loop hb hR hP hE hy cm.length 0 T J _ _ K none none none (by omega) hc1 hF1 (fun T2 J2 st2 li2 K2 a1 a2 a3 => by have hq0 := hq T2 J2 st2 li2 K2 (fr_trans (fr_mono hf1 (fun j hj => by simp only [List.mem_cons, List.not_mem_nil, or_false] at hj ⊢; omega)) a1) (gf_trans (gf_mono hg1 (fun j hj => by simp only [List.mem_cons, List.not_mem_nil, or_false] at hj ⊢; omega)) a2) a3; unfold psE at hq0; rw [hg, Bool.true_and] at hq0; exact hq0)
    | false => exact ps_z h1.1 hF1.2.2.2.2.2.1 (by decide) (by have := hF.2.2.2.2.2.2.2.1; omega) (by have hq0 := hq T J _ _ K (fr_mono hf1 (fun j hj => by simp only [List.mem_cons, List.not_mem_nil, or_false] at hj ⊢; omega)) (gf_mono hg1 (fun j hj => by simp only [List.mem_cons, List.not_mem_nil, or_false] at hj ⊢; omega)) hc1; unfold psE at hq0; rw [hg, Bool.false_and] at hq0; exact hq0)
  refine wp_step rfl rfl ?_
  refine wp_getg (v := (.int (nI nm))) rfl h1.1 (by decide) (congrArg Value.int hF1.2.2.2.2.1) ?_
  refine wp_if rfl (fun c0 => ?_) (fun c0 => ?_)
  · replace c0 := z_eq_t (a := nm) (by omega) c0
    iterate 2 refine wp_step rfl rfl ?_
    exact hgo true (by rw [decide_eq_true c0, Bool.true_or])
  · replace c0 := z_eq_f (a := nm) (by omega) c0
    refine wp_step rfl rfl ?_
    refine wp_getg rfl h1.1 (by decide) rfl ?_
    iterate 2 refine wp_step rfl rfl ?_
    refine wp_getg rfl h1.1 (by decide) rfl ?_
    refine wp_step rfl rfl ?_
    refine wp_c0 rfl rfl (by decide) rfl (recv_ok h1.1 rfl) rfl (q_mtypeOf (kd := some 1) h1.1 h20 hc1.2.2.2.2.2.2.2.2.1 hT (by omega) hmck.1.1 hid31 (fun k hk => by cases hk; decide) (wf_bd hmck.1) ?_)
    rw [show tof ck.2.2.1 y.2.2.2.1 (some 1) = some t from tixk_of hmck.1 ht hx hx1]
    have hs80 : 10 * (4 * v + y.1) + t < 80 := by have := hmck.1.1; have := (List.getElem?_eq_some_iff.mp hx).1; omega
    show wp X (d + 14) 151 25 [some (.ref 408), some (.int (nI e)), none, none, none, none, none] [.int (nI (10 * (4 * v + y.1) + t)), .ref 419] T Q
    refine wp_ald rfl (Or.inl ⟨rfl, rfl⟩) (by decide) hc1.2.2.2.2.2.2.2.2.1.2.2.1 (am_in_nI (by omega) (by decide)) ?_
    rw [nI_clamp (by omega)]
    rw [hnm]
    refine wp_step rfl rfl ?_
    refine wp_getg (v := (.int (nI nm))) rfl h1.1 (by decide) (congrArg Value.int hF1.2.2.2.2.1) ?_
    refine wp_icmp rfl (fun c1 => ?_) (fun c1 => ?_)
    · replace c1 := n_ne_t (a := x.2.1) (b := nm) (by omega) (by omega) c1
      refine wp_step rfl rfl ?_
      exact hgo false (by rw [hevN, decide_eq_false c0, decide_eq_false (fun h9 => c1 ((lN_eq (by omega) (by omega)).mp h9)), Bool.or_false])
    · replace c1 := n_ne_f (a := x.2.1) (b := nm) (by omega) (by omega) c1
      iterate 2 refine wp_step rfl rfl ?_
      exact hgo true (by rw [hevN, c1, decide_eq_true rfl, Bool.or_true])
end MSELECT
