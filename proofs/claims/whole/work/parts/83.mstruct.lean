/-! THE MODEL: the types are in order -/
theorem tixk_tix {τ : jTT} (hw : wfT τ) {w k t : Nat} (h : tixk τ w k = some t) : tix τ w = some t ∧ ∃ x, τ[t]? = some x ∧ x.2.2.1 = k := by
  obtain ⟨h1, h2, h3, h4⟩ := fsti_some h
  have h5 : t < τ.length := by omega
  have h6 := of_decide_eq_true h3
  rw [List.getElem?_eq_getElem h5] at h6
  have h7 : τ[t].1 = w ∧ τ[t].2.2.1 = k := by simpa using h6
  refine ⟨?_, τ[t], List.getElem?_eq_getElem h5, h7.2⟩
  refine fsti_mk (Nat.zero_le _) (by omega) ?_ (fun j _ hj => ?_)
  · rw [List.getElem?_eq_getElem h5]; simp [h7.1]
  · apply decide_eq_false
    intro h9
    cases ey : τ[j]? with
    | none => rw [ey] at h9; cases h9
    | some y =>
      rw [ey] at h9
      have h8 : y.1 = w := by simpa using h9
      have := hw.2.2 j t y τ[t] ey (List.getElem?_eq_getElem h5) (h8.trans h7.1.symm)
      omega
section MSTRUCT
variable {X : Nat × (Nat → Int32)} {d : Nat} {Q : am_R → Prop} {S : am_S} {I : Nat → Int32} {st li : Int64} {M : jMT} {τ : jTT} {sl pm : Nat}
set_option maxHeartbeats 2000000 in
theorem sf_loop {s : Nat} {x : jTy} (h : am_get S 408 = some (moC I st li)) (h20 : I 20 = nI sl) (hM : mTa S M) (hT : mTy M sl τ) (hsl : sl < 8) (hwf : wfT τ) (hx : τ[s]? = some x) (hFs : mFs M (10 * sl + s) x.2.2.2) (hs10 : s < 10) (hxl : x.2.2.2.length ≤ 8) : ∀ (k f : Nat) (gd : Bool) (z6 x8 : Option Value), f + k = x.2.2.2.length → (∀ (gd' : Bool) y5 y6 y8, (gd' = true ↔ gd = true ∧ ∀ (f' : Nat) (y : jFd), f ≤ f' → x.2.2.2[f']? = some y → goodF τ y) → wp X (d + 1) 119 129 [some (.ref 408), some (.int (nI pm)), some (.int (bI gd')), some (.int (nI s)), some (.int (nI (10 * sl + s))), y5, y6, none, y8] [] S Q) → wp X (d + 1) 119 31 [some (.ref 408), some (.int (nI pm)), some (.int (bI gd)), some (.int (nI s)), some (.int (nI (10 * sl + s))), some (.int (nI f)), z6, none, x8] [] S Q := by
  intro k
  induction k with
  | zero =>
    intro f gd x6 x8 hf hq
    have e9 : f = x.2.2.2.length := by omega
    subst e9
    iterate 2 refine wp_step rfl rfl ?_
    refine wp_getg rfl h (by decide) rfl ?_
    refine wp_step rfl rfl ?_
    refine wp_ald rfl (Or.inl ⟨rfl, rfl⟩) (by decide) hM.2.2.2.2.1 (am_in_nI (by omega) (by decide)) ?_
    rw [nI_clamp (by omega)]
    rw [hFs.1]
    refine wp_icmp rfl (fun c0 => ?_) (fun c0 => ?_)
    · replace c0 := n_ge_t (a := x.2.2.2.length) (b := x.2.2.2.length) (by omega) (by omega) c0
      exact hq gd _ _ _ ⟨fun h9 => ⟨h9, fun f y hf hy => absurd (List.getElem?_eq_some_iff.mp hy).1 (by omega)⟩, fun h9 => h9.1⟩
    · replace c0 := n_ge_f (a := x.2.2.2.length) (b := x.2.2.2.length) (by omega) (by omega) c0
      omega
  | succ k ih =>
    intro f gd x6 x8 hf hq
    iterate 2 refine wp_step rfl rfl ?_
    refine wp_getg rfl h (by decide) rfl ?_
    refine wp_step rfl rfl ?_
    refine wp_ald rfl (Or.inl ⟨rfl, rfl⟩) (by decide) hM.2.2.2.2.1 (am_in_nI (by omega) (by decide)) ?_
    rw [nI_clamp (by omega)]
    rw [hFs.1]
    refine wp_icmp rfl (fun c0 => ?_) (fun c0 => ?_)
    · replace c0 := n_ge_t (a := f) (b := x.2.2.2.length) (by omega) (by omega) c0
      omega
    · replace c0 := n_ge_f (a := f) (b := x.2.2.2.length) (by omega) (by omega) c0
      obtain ⟨y, hy⟩ : ∃ y, x.2.2.2[f]? = some y := ⟨_, List.getElem?_eq_getElem c0⟩
      obtain ⟨a1, a2, a3⟩ := hFs.2 f y hy
      have hyo := (wf_fd hwf hx hy).1
      unfold fdOK at hyo
      have hwl := hwf.1
      have nx : ∀ (g2 : Bool) z8, (g2 = true ↔ gd = true ∧ goodF τ y) → wp X (d + 1) 119 122 [some (.ref 408), some (.int (nI pm)), some (.int (bI gd)), some (.int (nI s)), some (.int (nI (10 * sl + s))), some (.int (nI f)), some (.long (lN y.2.1)), none, z8] [.int (bI g2)] S Q := by
        intro g2 z8 hg2
        refine wp_step rfl rfl ?_
        show wp X (d + 1) 119 123 [some (.ref 408), some (.int (nI pm)), some (.int (bI g2)), some (.int (nI s)), some (.int (nI (10 * sl + s))), some (.int (nI f)), some (.long (lN y.2.1)), none, z8] [] S Q
        iterate 2 refine wp_step rfl rfl ?_
        rw [show nI f + Int32.ofInt 1 = nI (f + 1) from nI_add f 1]
        refine ih (f + 1) g2 _ _ (by omega) (fun g3 z5 z6 z8 h3 => hq g3 z5 z6 z8 ⟨fun h9 => ?_, fun h9 => h3.mpr ⟨hg2.mpr ⟨h9.1, h9.2 f y (Nat.le_refl _) hy⟩, fun f' y' hf' hy' => h9.2 f' y' (by omega) hy'⟩⟩)
        obtain ⟨q1, q2⟩ := h3.mp h9
        obtain ⟨q3, q4⟩ := hg2.mp q1
        refine ⟨q3, fun f' y' hf' hy' => ?_⟩
        by_cases e9 : f' = f
        · subst e9; rw [hy] at hy'; cases hy'; exact q4
        · exact q2 f' y' (by omega) hy'
      refine wp_step rfl rfl ?_
      refine wp_getg rfl h (by decide) rfl ?_
      iterate 5 refine wp_step rfl rfl ?_
      rw [show (Int8.ofInt 8).toInt32 * nI (10 * sl + s) = nI (8 * (10 * sl + s)) from pk_mul 8 (10 * sl + s), nI_add]
      refine wp_lald rfl (by decide) hM.2.2.2.2.2.2.1 (am_in_nI (by omega) (by decide)) ?_
      rw [nI_clamp (by omega)]
      rw [a2]
      refine wp_step rfl rfl ?_
      show wp X (d + 1) 119 58 [some (.ref 408), some (.int (nI pm)), some (.int (bI gd)), some (.int (nI s)), some (.int (nI (10 * sl + s))), some (.int (nI f)), some (.long (lN y.2.1)), none, x8] [] S Q
      have K : ∀ o : Option Nat, (y.2.1 ≤ 10 → o = none) → (10 < y.2.1 → o = tixk τ y.2.1 0) → wp X (d + 1) 119 78 [some (.ref 408), some (.int (nI pm)), some (.int (bI gd)), some (.int (nI s)), some (.int (nI (10 * sl + s))), some (.int (nI f)), some (.long (lN y.2.1)), none, x8] [.int (mO sl o)] S Q := by
        intro o ho1 ho2
        refine wp_step rfl rfl ?_
        show wp X (d + 1) 119 80 [some (.ref 408), some (.int (nI pm)), some (.int (bI gd)), some (.int (nI s)), some (.int (nI (10 * sl + s))), some (.int (nI f)), some (.long (lN y.2.1)), none, some (.int (mO sl o))] [] S Q
        cases gd with
        | false =>
          refine wp_step rfl rfl ?_
          refine wp_if_t rfl rfl ?_
          refine wp_step rfl rfl ?_
          exact nx false _ ⟨fun h9 => (by cases h9), fun h9 => by cases h9.1⟩
        | true =>
          refine wp_step rfl rfl ?_
          refine wp_if_f rfl rfl ?_
          have XB : ¬ (2 ≤ y.2.1 ∧ y.2.1 ≤ 10) → wp X (d + 1) 119 102 [some (.ref 408), some (.int (nI pm)), some (.int (bI true)), some (.int (nI s)), some (.int (nI (10 * sl + s))), some (.int (nI f)), some (.long (lN y.2.1)), none, some (.int (mO sl o))] [] S Q := by
            intro hnp
            cases o with
            | none =>
              refine wp_step rfl rfl ?_
              refine wp_if_t rfl rfl ?_
              refine wp_step rfl rfl ?_
              exact nx false _ ⟨fun h9 => (by cases h9), fun h9 => absurd h9.2 (fun hg => by
                rcases hg with q | ⟨u, z, q1, q2, q3, q4⟩
                · exact hnp q
                · have h16 := tix_ten hwf q1
                  have := ho2 (by omega)
                  rw [tixk_of hwf q1 q2 q3] at this
                  cases this)⟩
            | some u =>
              have h10 : 10 < y.2.1 := by
                by_cases g : 10 < y.2.1
                · exact g
                · have := ho1 (by omega); cases this
              obtain ⟨q1, z, q2, q3⟩ := tixk_tix hwf (ho2 h10).symm
              obtain ⟨_, _, _, hul⟩ := tix_some q1
              have hzF := (hT.2 u z q2).2.2.2
              have hzk := (wf_ty hwf q2).1
              unfold tyOK at hzk
              unfold mO
              dsimp only
              refine wp_step rfl rfl ?_
              refine wp_if rfl (fun c5 => ?_) (fun c5 => ?_)
              · replace c5 := z_lt_t (a := 10 * sl + u) (by omega) c5
                exact c5.elim
              · replace c5 := z_lt_f (a := 10 * sl + u) (by omega) c5
                refine wp_step rfl rfl ?_
                refine wp_getg rfl h (by decide) rfl ?_
                refine wp_step rfl rfl ?_
                refine wp_ald rfl (Or.inl ⟨rfl, rfl⟩) (by decide) hM.2.2.2.2.1 (am_in_nI (by omega) (by decide)) ?_
                rw [nI_clamp (by omega)]
                rw [hzF.1]
                refine wp_if rfl (fun c6 => ?_) (fun c6 => ?_)
                · replace c6 := z_le_t (a := z.2.2.2.length) (by omega) c6
                  refine wp_step rfl rfl ?_
                  exact nx false _ ⟨fun h9 => (by cases h9), fun h9 => absurd h9.2 (fun hg => by
                    rcases hg with q | ⟨u2, z2, r1, r2, r3, r4⟩
                    · exact hnp q
                    · rw [q1] at r1; cases r1; rw [q2] at r2; cases r2; exact r4 c6)⟩
                · replace c6 := z_le_f (a := z.2.2.2.length) (by omega) c6
                  iterate 2 refine wp_step rfl rfl ?_
                  exact nx true _ ⟨fun _ => ⟨rfl, Or.inr ⟨u, z, q1, q2, q3, by omega⟩⟩, fun _ => rfl⟩
          iterate 3 refine wp_step rfl rfl ?_
          refine wp_if rfl (fun c2 => ?_) (fun c2 => ?_)
          · replace c2 := l_lt_t c2
            exact XB (fun h9 => by have := (lN_lt (by omega) (by decide)).mp (show lN y.2.1 < lN 2 from c2); omega)
          · replace c2 := l_lt_f c2
            have h2 : 2 ≤ y.2.1 := by
              by_cases g : 2 ≤ y.2.1
              · exact g
              · exact absurd ((lN_lt (by omega) (by decide)).mpr (show y.2.1 < 2 by omega)) c2
            iterate 3 refine wp_step rfl rfl ?_
            refine wp_if rfl (fun c3 => ?_) (fun c3 => ?_)
            · replace c3 := l_le_t c3
              iterate 2 refine wp_step rfl rfl ?_
              exact nx true _ ⟨fun _ => ⟨rfl, Or.inl ⟨h2, (lN_le (by omega) (by decide)).mp c3⟩⟩, fun _ => rfl⟩
            · replace c3 := l_le_f c3
              exact XB (fun h9 => c3 ((lN_le (by omega) (by decide)).mpr h9.2))
      iterate 3 refine wp_step rfl rfl ?_
      refine wp_if rfl (fun c1 => ?_) (fun c1 => ?_)
      · replace c1 := l_le_t c1
        refine wp_step rfl rfl ?_
        have h9b : y.2.1 ≤ 10 := (lN_le (by omega) (by decide)).mp c1
        exact K none (fun _ => rfl) (fun h9 => by omega)
      · replace c1 := l_le_f c1
        have h10 : 10 < y.2.1 := by
          by_cases g : 10 < y.2.1
          · exact g
          · exact absurd ((lN_le (by omega) (by decide)).mpr (show y.2.1 ≤ 10 by omega)) c1
        iterate 3 refine wp_step rfl rfl ?_
        refine wp_c0 rfl rfl (by decide) rfl (recv_ok h rfl) rfl (q_mtypeOf (kd := some 0) h h20 hM hT hsl hwf.1 (by omega) (fun k hk => by cases hk; decide) (fun i z hz => by have := (wf_ty hwf hz).1; unfold tyOK at this; omega) ?_)
        refine wp_step rfl rfl ?_
        exact K (tixk τ y.2.1 0) (fun h9 => by omega) (fun _ => rfl)
set_option maxHeartbeats 1000000 in
theorem ss_loop (h : am_get S 408 = some (moC I st li)) (h20 : I 20 = nI sl) (hM : mTa S M) (hT : mTy M sl τ) (hsl : sl < 8) (hwf : wfT τ) : ∀ (k s : Nat) (gd : Bool) (x4 x5 x6 x8 : Option Value), s + k = τ.length → (∀ (gd' : Bool) y4 y5 y6 y8, (gd' = true ↔ gd = true ∧ ∀ (t : Nat) (x : jTy) (f : Nat) (y : jFd), s ≤ t → τ[t]? = some x → x.2.2.2[f]? = some y → goodF τ y) → wp X (d + 1) 119 135 [some (.ref 408), some (.int (nI pm)), some (.int (bI gd')), some (.int (nI τ.length)), y4, y5, y6, none, y8] [] S Q) → wp X (d + 1) 119 4 [some (.ref 408), some (.int (nI pm)), some (.int (bI gd)), some (.int (nI s)), x4, x5, x6, none, x8] [] S Q := by
  have hwl := hwf.1
  intro k
  induction k with
  | zero =>
    intro s gd x4 x5 x6 x8 hs hq
    have e9 : s = τ.length := by omega
    subst e9
    iterate 2 refine wp_step rfl rfl ?_
    refine wp_getg rfl h (by decide) rfl ?_
    refine wp_step rfl rfl ?_
    refine wp_getg (v := (.int (nI sl))) rfl h (by decide) (congrArg Value.int h20) ?_
    refine wp_ald rfl (Or.inl ⟨rfl, rfl⟩) (by decide) hM.1 (am_in_nI (by omega) (by decide)) ?_
    rw [nI_clamp (by omega)]
    rw [hT.1]
    refine wp_icmp rfl (fun c0 => ?_) (fun c0 => ?_)
    · replace c0 := n_ge_t (a := τ.length) (b := τ.length) (by omega) (by omega) c0
      exact hq gd _ _ _ _ ⟨fun h9 => ⟨h9, fun t x f y ht hx => absurd (List.getElem?_eq_some_iff.mp hx).1 (by omega)⟩, fun h9 => h9.1⟩
    · replace c0 := n_ge_f (a := τ.length) (b := τ.length) (by omega) (by omega) c0
      omega
  | succ k ih =>
    intro s gd x4 x5 x6 x8 hs hq
    iterate 2 refine wp_step rfl rfl ?_
    refine wp_getg rfl h (by decide) rfl ?_
    refine wp_step rfl rfl ?_
    refine wp_getg (v := (.int (nI sl))) rfl h (by decide) (congrArg Value.int h20) ?_
    refine wp_ald rfl (Or.inl ⟨rfl, rfl⟩) (by decide) hM.1 (am_in_nI (by omega) (by decide)) ?_
    rw [nI_clamp (by omega)]
    rw [hT.1]
    refine wp_icmp rfl (fun c0 => ?_) (fun c0 => ?_)
    · replace c0 := n_ge_t (a := s) (b := τ.length) (by omega) (by omega) c0
      omega
    · replace c0 := n_ge_f (a := s) (b := τ.length) (by omega) (by omega) c0
      obtain ⟨x, hx⟩ : ∃ x, τ[s]? = some x := ⟨_, List.getElem?_eq_getElem c0⟩
      have hxk := (wf_ty hwf hx).1
      unfold tyOK at hxk
      iterate 2 refine wp_step rfl rfl ?_
      refine wp_getg (v := (.int (nI sl))) rfl h (by decide) (congrArg Value.int h20) ?_
      iterate 3 refine wp_step rfl rfl ?_
      rw [show (Int8.ofInt 10).toInt32 * nI sl = nI (10 * sl) from pk_mul 10 sl, nI_add]
      iterate 3 refine wp_step rfl rfl ?_
      show wp X (d + 1) 119 31 [some (.ref 408), some (.int (nI pm)), some (.int (bI gd)), some (.int (nI s)), some (.int (nI (10 * sl + s))), some (.int (nI 0)), x6, none, x8] [] S Q
      refine sf_loop h h20 hM hT hsl hwf hx (hT.2 s x hx).2.2.2 (by omega) (by omega) x.2.2.2.length 0 gd _ _ (by omega) (fun g2 y5 y6 y8 hg2 => ?_)
      iterate 2 refine wp_step rfl rfl ?_
      rw [show nI s + Int32.ofInt 1 = nI (s + 1) from nI_add s 1]
      refine ih (s + 1) g2 _ _ _ _ (by omega) (fun g3 y4 y5 y6 y8 h3 => hq g3 y4 y5 y6 y8 ⟨fun h9 => ?_, fun h9 => h3.mpr ⟨hg2.mpr ⟨h9.1, fun f y _ hy => h9.2 s x f y (Nat.le_refl _) hx hy⟩, fun t x' f y ht hx' hy => h9.2 t x' f y (by omega) hx' hy⟩⟩)
      obtain ⟨q1, q2⟩ := h3.mp h9
      obtain ⟨q3, q4⟩ := hg2.mp q1
      refine ⟨q3, fun t x' f y ht hx' hy => ?_⟩
      by_cases e9 : t = s
      · subst e9; rw [hx] at hx'; cases hx'; exact q4 f y (Nat.zero_le _) hy
      · exact q2 t x' f y (by omega) hx' hy
theorem su_end {gd : Bool} {x3 x4 x5 x6 x8 : Option Value} (h : am_get S 408 = some (moC I st li)) (h25 : I 25 = 0) (hgood : gd = true → Q (.inl none, S)) (hbad : gd = false → ∀ T J, fr [408] S T → gf [25, 26] I J → mX T J st li 4 pm → Q (.inl none, T)) : wp X (d + 2) 119 174 [some (.ref 408), some (.int (nI pm)), some (.int (bI gd)), x3, x4, x5, x6, none, x8] [] S Q := by
  cases gd with
  | false =>
    refine wp_step rfl rfl ?_
    refine wp_if_f rfl rfl ?_
    iterate 3 refine wp_step rfl rfl ?_
    refine wp_c0 rfl rfl (by decide) rfl (recv_ok h rfl) rfl (q_mwrong h h25 (fun T hf1 h1 => ?_))
    refine wp_vret rfl rfl (hbad rfl T _ hf1 (gf_up (gf_up (gf_refl _ _) (by simp)) (by simp)) ⟨h1, pk_us, by decide, (pk_un (by decide)).trans pk_us⟩)
  | true =>
    refine wp_step rfl rfl ?_
    refine wp_if_t rfl rfl ?_
    refine wp_vret rfl rfl (hgood rfl)
set_option maxHeartbeats 1000000 in
theorem st_loop {x4 x5 x6 x8 : Option Value} (h : am_get S 408 = some (moC I st li)) (h20 : I 20 = nI sl) (h25 : I 25 = 0) (hM : mTa S M) (hT : mTy M sl τ) (hsl : sl < 8) (hwf : wfT τ) (hfh : fht τ) (hgood : nocyc τ → Q (.inl none, S)) (hbad : ¬ nocyc τ → ∀ T J, fr [408] S T → gf [25, 26] I J → mX T J st li 4 pm → Q (.inl none, T)) : ∀ (k t : Nat), t + k = τ.length → (∀ t', t' < t → ∃ C, CL τ t' C ∧ C.testBit t' = false) → wp X (d + 2) 119 137 [some (.ref 408), some (.int (nI pm)), some (.int (bI true)), some (.int (nI t)), x4, x5, x6, none, x8] [] S Q := by
  have hwl := hwf.1
  intro k
  induction k with
  | zero =>
    intro t ht hdone
    have e9 : t = τ.length := by omega
    subst e9
    iterate 2 refine wp_step rfl rfl ?_
    refine wp_getg rfl h (by decide) rfl ?_
    refine wp_step rfl rfl ?_
    refine wp_getg (v := (.int (nI sl))) rfl h (by decide) (congrArg Value.int h20) ?_
    refine wp_ald rfl (Or.inl ⟨rfl, rfl⟩) (by decide) hM.1 (am_in_nI (by omega) (by decide)) ?_
    rw [nI_clamp (by omega)]
    rw [hT.1]
    refine wp_icmp rfl (fun c0 => ?_) (fun c0 => ?_)
    · replace c0 := n_ge_t (a := τ.length) (b := τ.length) (by omega) (by omega) c0
      exact su_end h h25 (fun _ => hgood (CL_no hwl (fun t ht => hdone t ht))) (fun h9 => by cases h9)
    · replace c0 := n_ge_f (a := τ.length) (b := τ.length) (by omega) (by omega) c0
      omega
  | succ k ih =>
    intro t ht hdone
    iterate 2 refine wp_step rfl rfl ?_
    refine wp_getg rfl h (by decide) rfl ?_
    refine wp_step rfl rfl ?_
    refine wp_getg (v := (.int (nI sl))) rfl h (by decide) (congrArg Value.int h20) ?_
    refine wp_ald rfl (Or.inl ⟨rfl, rfl⟩) (by decide) hM.1 (am_in_nI (by omega) (by decide)) ?_
    rw [nI_clamp (by omega)]
    rw [hT.1]
    refine wp_icmp rfl (fun c0 => ?_) (fun c0 => ?_)
    · replace c0 := n_ge_t (a := t) (b := τ.length) (by omega) (by omega) c0
      omega
    · replace c0 := n_ge_f (a := t) (b := τ.length) (by omega) (by omega) c0
      refine wp_step rfl rfl ?_
      refine wp_if_f rfl rfl ?_
      iterate 2 refine wp_step rfl rfl ?_
      refine wp_c0 rfl rfl (by decide) rfl (recv_ok h rfl) rfl (q_mheld h h20 hM hT hsl hwf hfh c0 (fun C hC => ?_))
      cases hb9 : C.testBit t with
      | false =>
        refine wp_if_f rfl rfl ?_
        iterate 5 refine wp_step rfl rfl ?_
        rw [show nI t + Int32.ofInt 1 = nI (t + 1) from nI_add t 1]
        show wp X (d + 2) 119 137 [some (.ref 408), some (.int (nI pm)), some (.int (bI true)), some (.int (nI (t + 1))), x4, x5, x6, none, x8] [] S Q
        exact ih (t + 1) (by omega) (fun t' ht' => by
          by_cases e9 : t' = t
          · subst e9; exact ⟨C, hC, hb9⟩
          · exact hdone t' (by omega))
      | true =>
        refine wp_if_t rfl rfl ?_
        iterate 4 refine wp_step rfl rfl ?_
        rw [show nI t + Int32.ofInt 1 = nI (t + 1) from nI_add t 1]
        show wp X (d + 2) 119 137 [some (.ref 408), some (.int (nI pm)), some (.int (bI false)), some (.int (nI (t + 1))), x4, x5, x6, none, x8] [] S Q
        have fin : ∀ z3, wp X (d + 2) 119 174 [some (.ref 408), some (.int (nI pm)), some (.int (bI false)), z3, x4, x5, x6, none, x8] [] S Q := fun z3 => su_end h h25 (fun h9 => by cases h9) (fun _ T J q1 q2 q3 => hbad (CL_cyc hC hb9) T J q1 q2 q3)
        iterate 2 refine wp_step rfl rfl ?_
        refine wp_getg rfl h (by decide) rfl ?_
        refine wp_step rfl rfl ?_
        refine wp_getg (v := (.int (nI sl))) rfl h (by decide) (congrArg Value.int h20) ?_
        refine wp_ald rfl (Or.inl ⟨rfl, rfl⟩) (by decide) hM.1 (am_in_nI (by omega) (by decide)) ?_
        rw [nI_clamp (by omega)]
        rw [hT.1]
        refine wp_icmp rfl (fun c1 => ?_) (fun c1 => ?_)
        · replace c1 := n_ge_t (a := t + 1) (b := τ.length) (by omega) (by omega) c1
          exact fin _
        · replace c1 := n_ge_f (a := t + 1) (b := τ.length) (by omega) (by omega) c1
          refine wp_step rfl rfl ?_
          refine wp_if_t rfl rfl ?_
          exact fin _
theorem q_mstruct (h : am_get S 408 = some (moC I st li)) (h20 : I 20 = nI sl) (h25 : I 25 = 0) (hM : mTa S M) (hT : mTy M sl τ) (hsl : sl < 8) (hwf : wfT τ) (hgood : fht τ → nocyc τ → Q (.inl none, S)) (hbad : ¬ (fht τ ∧ nocyc τ) → ∀ T J, fr [408] S T → gf [25, 26] I J → mX T J st li 4 pm → Q (.inl none, T)) : ev X (d + 3) 119 [.ref 408, .int (nI pm)] S Q := by
  refine ev_wp (L0 := [some (.ref 408), some (.int (nI pm)), none, none, none, none, none, none, none]) (Nat.le_of_ble_eq_true rfl) rfl ?_
  iterate 4 refine wp_step rfl rfl ?_
  show wp X (d + 2) 119 4 [some (.ref 408), some (.int (nI pm)), some (.int (bI true)), some (.int (nI 0)), none, none, none, none, none] [] S Q
  refine ss_loop (d := d + 1) h h20 hM hT hsl hwf τ.length 0 true none none none none (by omega) (fun gd y4 y5 y6 y8 hgd => ?_)
  iterate 2 refine wp_step rfl rfl ?_
  show wp X (d + 2) 119 137 [some (.ref 408), some (.int (nI pm)), some (.int (bI gd)), some (.int (nI 0)), y4, y5, y6, none, y8] [] S Q
  cases gd with
  | false =>
    have hnf : ¬ fht τ := fun h9 => by
      have := hgd.mpr ⟨rfl, fun t x f y _ hx hy => h9 t x f y hx hy⟩
      cases this
    have hwl := hwf.1
    have fin : ∀ z3, wp X (d + 2) 119 174 [some (.ref 408), some (.int (nI pm)), some (.int (bI false)), z3, y4, y5, y6, none, y8] [] S Q := fun z3 => su_end h h25 (fun h9 => by cases h9) (fun _ T J q1 q2 q3 => hbad (fun h9 => hnf h9.1) T J q1 q2 q3)
    iterate 2 refine wp_step rfl rfl ?_
    refine wp_getg rfl h (by decide) rfl ?_
    refine wp_step rfl rfl ?_
    refine wp_getg (v := (.int (nI sl))) rfl h (by decide) (congrArg Value.int h20) ?_
    refine wp_ald rfl (Or.inl ⟨rfl, rfl⟩) (by decide) hM.1 (am_in_nI (by omega) (by decide)) ?_
    rw [nI_clamp (by omega)]
    rw [hT.1]
    refine wp_icmp rfl (fun c1 => ?_) (fun c1 => ?_)
    · replace c1 := n_ge_t (a := 0) (b := τ.length) (by omega) (by omega) c1
      exact fin _
    · replace c1 := n_ge_f (a := 0) (b := τ.length) (by omega) (by omega) c1
      refine wp_step rfl rfl ?_
      refine wp_if_t rfl rfl ?_
      exact fin _
  | true =>
    have hfh : fht τ := fun t x f y hx hy => (hgd.mp rfl).2 t x f y (Nat.zero_le _) hx hy
    exact st_loop h h20 h25 hM hT hsl hwf hfh (fun h9 => hgood hfh h9) (fun h9 T J q1 q2 q3 => hbad (fun h8 => h9 h8.2) T J q1 q2 q3) τ.length 0 (by omega) (fun t' ht' => by omega)
end MSTRUCT
