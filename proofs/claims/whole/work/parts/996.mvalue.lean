/-! THE MODEL: kind, value, letter -/
theorem us_lt {b : Nat → Nat} {stop : Nat} (hb : ∀ j, b j < 256) : ∀ {k p : Nat} {ls : List Nat}, us b stop k p = .inr ls → ∀ x, x ∈ ls → x < 65536 := by
  intro k
  induction k with
  | zero => intro p ls h x hx; cases h; cases hx
  | succ k ih =>
    intro p ls h x hx
    unfold us at h
    split at h
    · cases h; cases hx
    · split at h
      · cases h
      · rename_i x1 m e
        have h1 := u8_ok e (by omega)
        split at h
        · cases h
        · rename_i ls2 e2
          cases h
          rcases List.mem_cons.mp hx with g | g
          · omega
          · exact ih e2 x g
theorem nls_lt {b : Nat → Nat} {lim : Nat} : ∀ {k p p' : Nat} {ls : List Nat}, nls b lim k p = .inr (ls, p') → ∀ x, x ∈ ls → x < 65536 := by
  intro k
  induction k with
  | zero => intro p p' ls h x hx; cases h; cases hx
  | succ k ih =>
    intro p p' ls h x hx
    unfold nls at h
    split at h
    · cases h
    · rename_i v1 p1 e1
      split at h
      · cases h
      · rename_i ls2 p2 e2
        cases h
        rcases List.mem_cons.mp hx with g | g
        · subst g; exact Nat.mod_lt _ (by decide)
        · exact ih e2 x g
theorem bls_lt {b : Nat → Nat} (hb : ∀ j, b j < 256) : ∀ (k p x : Nat), x ∈ bls b k p → x < 65536 := by
  intro k
  induction k with
  | zero => intro p x hx; cases hx
  | succ k ih =>
    intro p x hx
    unfold bls at hx
    rcases List.mem_cons.mp hx with g | g
    · have := hb p; omega
    · exact ih (p + 1) x g
theorem rdX_l16 {b : Nat → Nat} {lim p p' : Nat} {ls : List Nat} (hb : ∀ j, b j < 256) (h : rdX b lim p = .inr (.inr (.inr ls), p')) : ∀ x, x ∈ ls → x < 65536 := by
  unfold rdX at h
  split at h
  · cases h
  · split at h
    · cases h
    · split at h
      · split at h
        · cases h
        · cases h
      · split at h
        · cases h
        · split at h
          · cases h; intro x hx; cases hx
          · split at h
            · cases h
            · split at h
              · split at h
                · cases h
                · rename_i e; cases h; exact nls_lt e
              · split at h
                · cases h
                · split at h
                  · split at h
                    · cases h
                    · rename_i e; cases h; exact us_lt hb e
                  · cases h; exact bls_lt hb _ _
section MVALUE
variable {X : Nat × (Nat → Int32)} {d : Nat} {Q : am_R → Prop} {b : Nat → Nat} {v tot : Nat} {re : jRe} {M : jMT} {E : jME} {C : jMC}
theorem mRc_1 {S T : am_S} {I J : Nat → Int32} {st li st' li' : Int64} {K : jMK} {ks : List Nat} (h : mRc S I st li b v tot re M E C K) (hf : fr [408] S T) (hT : am_get T 408 = some (moC J st' li')) (hg : gf ks I J) (h3 : 3 ∉ ks) (h25 : 25 ∉ ks) (h23 : 23 ∉ ks) : mRc T J st' li' b v tot re M E C K :=
  mRc_up h hf (fun j hj => by simp only [List.mem_cons, List.not_mem_nil, or_false] at hj; omega) hT hg h3 h25 h23 (mSk_fr h.2.2.2.2.2.2.2.2.2.2.2.2.2.2.2.2 hf (fun j hj => by simp only [List.mem_cons, List.not_mem_nil, or_false] at hj; omega))
theorem ev_at {k : Nat} {e : Int32} (h : idx e re.2.1.length = some k) (hl : re.2.1.length ≤ 60) : ∃ y, re.2.1[k]? = some y ∧ e = nI k := by
  obtain ⟨h1, h2⟩ := idx_some h (by omega)
  exact ⟨re.2.1[k], List.getElem?_eq_getElem h2, h1⟩
theorem q_mfails {S : am_S} {I : Nat → Int32} {st li : Int64} {z : Int32} (h : am_get S 408 = some (moC I st li)) (hq : ∀ T J, fr [408] S T → gf [0] I J → am_get T 408 = some (moC J st li) → J 0 = z → Q (.inl (some (.int 0)), T)) : ev X (d + 1) 93 [.ref 408, .int z] S Q := by
  refine ev_wp (L0 := [some (.ref 408), some (.int z)]) (Nat.le_of_ble_eq_true rfl) rfl ?_
  iterate 2 refine wp_step rfl rfl ?_
  refine wp_putg rfl h (by decide) rfl rfl ?_
  rw [mkG_i rfl]
  have h_Sx1 : am_get (am_upd S 408 (moC (upd I 0 (z)) st li)) 408 = some (moC (upd I 0 (z)) st li) := am_get_self h
  have hf_Sx1 : fr [408] S (am_upd S 408 (moC (upd I 0 (z)) st li)) := fr_up (by simp)
  generalize am_upd S 408 (moC (upd I 0 (z)) st li) = Sx1 at h_Sx1 hf_Sx1 ⊢
  refine wp_step rfl rfl ?_
  have hg_J : gf [0] I (upd I 0 (z)) := gf_up (gf_refl _ _) (by simp)
  have J_0 : (upd I 0 (z)) 0 = z := pk_us
  have a_J := h_Sx1
  have hf_J := hf_Sx1
  clear h_Sx1 hf_Sx1
  generalize upd I 0 (z) = J at a_J hg_J J_0
  refine wp_iret rfl rfl rfl (hq Sx1 J hf_J hg_J a_J J_0)
theorem q_mkind {S : am_S} {I : Nat → Int32} {st li : Int64} {K : jMK} {e path : Int32} (hb : ∀ j, b j < 256) (hR : reQ b tot re) (hP : evP b tot re) (hE : evR b tot re) (h : mRc S I st li b v tot re M E C K)
    (hret : ∀ k y T J st' li' K', idx e re.2.1.length = some k → re.2.1[k]? = some y → fr [408, 425, 426, 427] S T → gf [0, 19, 20, 21, 22, 24, 29, 33, 35, 36, 57] I J → J 0 = 0 → mRc T J st' li' b v tot re M E C K' → Q (.inl (some (.int (nI (kdR b (ldE b tot re y path))))), T))
    (hno : idx e re.2.1.length = none → ∀ T J st' li' K', fr [408, 425, 426, 427] S T → gf [0, 19, 20, 21, 22, 24, 29, 33, 35, 36, 57] I J → J 0 = 1 → mRc T J st' li' b v tot re M E C K' → Q (.inl (some (.int 0)), T)) : ev X (d + 14) 138 [.ref 408, .int e, .int path] S Q := by
  refine ev_wp (L0 := [some (.ref 408), some (.int e), some (.int path)]) (Nat.le_of_ble_eq_true rfl) rfl ?_
  iterate 3 refine wp_step rfl rfl ?_
  refine wp_c0 rfl rfl (by decide) rfl (recv_ok h.1 rfl) rfl (q_misEv h (fun k hk => ?_) (fun hk => ?_))
  · obtain ⟨yv, hyv, rfl⟩ := ev_at hk h.2.2.2.2.2.2.2.2.2.2.2.2.1
    refine wp_if_f rfl rfl ?_
    iterate 2 refine wp_step rfl rfl ?_
    refine wp_putg rfl h.1 (by decide) rfl rfl ?_
    rw [mkG_i rfl]
    have h_Sx2 : am_get (am_upd S 408 (moC (upd I 0 (Int32.ofInt 0)) st li)) 408 = some (moC (upd I 0 (Int32.ofInt 0)) st li) := am_get_self h.1
    have hf_Sx2 : fr [408] S (am_upd S 408 (moC (upd I 0 (Int32.ofInt 0)) st li)) := fr_up (by simp)
    generalize am_upd S 408 (moC (upd I 0 (Int32.ofInt 0)) st li) = Sx2 at h_Sx2 hf_Sx2 ⊢
    have hg_J1 : gf [0] I (upd I 0 (Int32.ofInt 0)) := gf_up (gf_refl _ _) (by simp)
    have J1_0 : (upd I 0 (Int32.ofInt 0)) 0 = 0 := pk_us
    have a_J1 := h_Sx2
    have hf_J1 := hf_Sx2
    clear h_Sx2 hf_Sx2
    generalize upd I 0 (Int32.ofInt 0) = J1 at a_J1 hg_J1 J1_0
    refine wp_step rfl rfl ?_
    refine wp_getg (v := (.int 0)) rfl a_J1 (by decide) (congrArg Value.int J1_0) ?_
    refine wp_if_t rfl rfl ?_
    have h1 := mRc_1 (st' := st) (li' := li) h hf_J1 a_J1 hg_J1 (by decide) (by decide) (by decide)
    iterate 3 refine wp_step rfl rfl ?_
    refine wp_c0 rfl rfl (by decide) rfl (recv_ok a_J1 rfl) rfl (q_mlead hb hR hP hE h1 hyv (fun ck T2 J2 st2 li2 K2 hf2 hg2 hl2 hs2 => ?_))
    refine wp_iret rfl rfl rfl (hret k yv T2 J2 st2 li2 K2 hk hyv (fr_trans (fr_mono hf_J1 (fun j hj => by simp only [List.mem_cons, List.not_mem_nil, or_false] at hj ⊢; omega)) hf2) (gf_trans (gf_mono hg_J1 (fun j hj => by simp only [List.mem_cons, List.not_mem_nil, or_false] at hj ⊢; omega)) (gf_mono hg2 (fun j hj => by simp only [List.mem_cons, List.not_mem_nil, or_false] at hj ⊢; omega))) ((hg2 0 (by decide)).trans J1_0) hl2.1)
  · refine wp_if_t rfl rfl ?_
    refine wp_step rfl rfl ?_
    refine wp_putg rfl h.1 (by decide) rfl rfl ?_
    rw [mkG_i rfl]
    have h_Sx3 : am_get (am_upd S 408 (moC (upd I 0 (Int32.ofInt 1)) st li)) 408 = some (moC (upd I 0 (Int32.ofInt 1)) st li) := am_get_self h.1
    have hf_Sx3 : fr [408] S (am_upd S 408 (moC (upd I 0 (Int32.ofInt 1)) st li)) := fr_up (by simp)
    generalize am_upd S 408 (moC (upd I 0 (Int32.ofInt 1)) st li) = Sx3 at h_Sx3 hf_Sx3 ⊢
    have hg_J1 : gf [0] I (upd I 0 (Int32.ofInt 1)) := gf_up (gf_refl _ _) (by simp)
    have J1_0 : (upd I 0 (Int32.ofInt 1)) 0 = 1 := pk_us
    have a_J1 := h_Sx3
    have hf_J1 := hf_Sx3
    clear h_Sx3 hf_Sx3
    generalize upd I 0 (Int32.ofInt 1) = J1 at a_J1 hg_J1 J1_0
    refine wp_step rfl rfl ?_
    refine wp_getg (v := (.int 1)) rfl a_J1 (by decide) (congrArg Value.int J1_0) ?_
    refine wp_if_f rfl rfl ?_
    iterate 2 refine wp_step rfl rfl ?_
    refine wp_iret rfl rfl rfl (hno hk Sx3 J1 _ _ K (fr_mono hf_J1 (fun j hj => by simp only [List.mem_cons, List.not_mem_nil, or_false] at hj ⊢; omega)) (gf_mono hg_J1 (fun j hj => by simp only [List.mem_cons, List.not_mem_nil, or_false] at hj ⊢; omega)) J1_0 (mRc_1 (st' := st) (li' := li) h hf_J1 a_J1 hg_J1 (by decide) (by decide) (by decide)))
theorem spO_gf {τ : jTT} {I J : Nat → Int32} {st : Int64} {o : Option jV} {ks : List Nat} (h : spO τ b tot I st o) (hg : gf ks I J) (h33 : 33 ∉ ks) (h35 : 35 ∉ ks) (h36 : 36 ∉ ks) : spO τ b tot J st o := by
  cases o with
  | none => exact (hg 36 h36).trans h
  | some w => exact ⟨(hg 36 h36).trans h.1, h.2.1, (hg 33 h33).trans h.2.2.1, (hg 35 h35).trans h.2.2.2.1, h.2.2.2.2⟩
theorem q_mvalue {S : am_S} {I : Nat → Int32} {st li : Int64} {K : jMK} {e path : Int32} (hb : ∀ j, b j < 256) (hR : reQ b tot re) (hP : evP b tot re) (hE : evR b tot re) (h : mRc S I st li b v tot re M E C K)
    (hret : ∀ k y o T J st' li' K', idx e re.2.1.length = some k → re.2.1[k]? = some y → ldE b tot re y path = some o → fr [408, 425, 426, 427] S T → gf [0, 19, 20, 21, 22, 24, 29, 33, 35, 36, 57] I J → J 0 = 0 → mRc T J st' li' b v tot re M E C K' → Q (.inl (some (.long (wrE b tot re y o))), T))
    (hnse : ∀ k y T J st' li' K', idx e re.2.1.length = some k → re.2.1[k]? = some y → ldE b tot re y path = none → fr [408, 425, 426, 427] S T → gf [0, 19, 20, 21, 22, 24, 29, 33, 35, 36, 57] I J → J 0 = 2 → mRc T J st' li' b v tot re M E C K' → Q (.inl (some (.long 0)), T))
    (hno : idx e re.2.1.length = none → ∀ T J st' li' K', fr [408, 425, 426, 427] S T → gf [0, 19, 20, 21, 22, 24, 29, 33, 35, 36, 57] I J → J 0 = 1 → mRc T J st' li' b v tot re M E C K' → Q (.inl (some (.long 0)), T)) : ev X (d + 14) 141 [.ref 408, .int e, .int path] S Q := by
  refine ev_wp (L0 := [some (.ref 408), some (.int e), some (.int path)]) (Nat.le_of_ble_eq_true rfl) rfl ?_
  iterate 3 refine wp_step rfl rfl ?_
  refine wp_c0 rfl rfl (by decide) rfl (recv_ok h.1 rfl) rfl (q_misEv h (fun k hk => ?_) (fun hk => ?_))
  · obtain ⟨yv, hyv, rfl⟩ := ev_at hk h.2.2.2.2.2.2.2.2.2.2.2.2.1
    refine wp_if_t rfl rfl ?_
    iterate 3 refine wp_step rfl rfl ?_
    refine wp_c0 rfl rfl (by decide) rfl (recv_ok h.1 rfl) rfl (q_mlead (path := path) hb hR hP hE h hyv (fun ck T2 J2 st2 li2 K2 hf2 hg2 hl2 hs2 => ?_))
    cases el : ldE b tot re yv path with
    | none =>
      show wp X (d + 13) 141 19 [some (.ref 408), some (.int (nI k)), some (.int path)] [.int (nI 0), .ref 408] T2 Q
      refine wp_if_f rfl rfl ?_
      iterate 2 refine wp_step rfl rfl ?_
      refine wp_putg rfl hl2.1.1 (by decide) rfl rfl ?_
      rw [mkG_i rfl]
      have h_Sx5 : am_get (am_upd T2 408 (moC (upd J2 0 (Int32.ofInt 2)) st2 li2)) 408 = some (moC (upd J2 0 (Int32.ofInt 2)) st2 li2) := am_get_self hl2.1.1
      have hf_Sx5 : fr [408] T2 (am_upd T2 408 (moC (upd J2 0 (Int32.ofInt 2)) st2 li2)) := fr_up (by simp)
      generalize am_upd T2 408 (moC (upd J2 0 (Int32.ofInt 2)) st2 li2) = Sx5 at h_Sx5 hf_Sx5 ⊢
      have hg_J3 : gf [0] J2 (upd J2 0 (Int32.ofInt 2)) := gf_up (gf_refl _ _) (by simp)
      have J3_0 : (upd J2 0 (Int32.ofInt 2)) 0 = 2 := pk_us
      have a_J3 := h_Sx5
      have hf_J3 := hf_Sx5
      clear h_Sx5 hf_Sx5
      generalize upd J2 0 (Int32.ofInt 2) = J3 at a_J3 hg_J3 J3_0
      refine wp_step rfl rfl ?_
      refine wp_getg (v := (.int 2)) rfl a_J3 (by decide) (congrArg Value.int J3_0) ?_
      refine wp_if_f rfl rfl ?_
      iterate 2 refine wp_step rfl rfl ?_
      refine wp_lret rfl rfl (hnse k yv Sx5 J3 st2 li2 K2 hk hyv el (fr_trans hf2 (fr_mono hf_J3 (fun j hj => by simp only [List.mem_cons, List.not_mem_nil, or_false] at hj ⊢; omega))) (gf_trans (gf_mono hg2 (fun j hj => by simp only [List.mem_cons, List.not_mem_nil, or_false] at hj ⊢; omega)) (gf_mono hg_J3 (fun j hj => by simp only [List.mem_cons, List.not_mem_nil, or_false] at hj ⊢; omega))) J3_0 (mRc_1 hl2.1 hf_J3 a_J3 hg_J3 (by decide) (by decide) (by decide)))
    | some o =>
      rw [el] at hs2
      obtain ⟨hci, hv, htot, hT, hmck, hC⟩ := lkS_sl hl2
      have hkp : kdR b (some o) ≠ 0 ∧ kdR b (some o) < 14 := by
        cases o with
        | none => exact ⟨by show (1 : Nat) ≠ 0; decide, by show (1 : Nat) < 14; decide⟩
        | some w => exact kdOf_pos hmck.1 hs2.2.2.2.2.2
      refine wp_if rfl (fun c0 => ?_) (fun c0 => ?_)
      · replace c0 := z_ne_t (a := kdR b (some o)) (by omega) c0
        refine wp_step rfl rfl ?_
        refine wp_putg rfl hl2.1.1 (by decide) rfl rfl ?_
        rw [mkG_i rfl]
        have h_Sx6 : am_get (am_upd T2 408 (moC (upd J2 0 (Int32.ofInt 0)) st2 li2)) 408 = some (moC (upd J2 0 (Int32.ofInt 0)) st2 li2) := am_get_self hl2.1.1
        have hf_Sx6 : fr [408] T2 (am_upd T2 408 (moC (upd J2 0 (Int32.ofInt 0)) st2 li2)) := fr_up (by simp)
        generalize am_upd T2 408 (moC (upd J2 0 (Int32.ofInt 0)) st2 li2) = Sx6 at h_Sx6 hf_Sx6 ⊢
        have hg_J3 : gf [0] J2 (upd J2 0 (Int32.ofInt 0)) := gf_up (gf_refl _ _) (by simp)
        have J3_0 : (upd J2 0 (Int32.ofInt 0)) 0 = 0 := pk_us
        have a_J3 := h_Sx6
        have hf_J3 := hf_Sx6
        clear h_Sx6 hf_Sx6
        generalize upd J2 0 (Int32.ofInt 0) = J3 at a_J3 hg_J3 J3_0
        refine wp_step rfl rfl ?_
        refine wp_getg (v := (.int 0)) rfl a_J3 (by decide) (congrArg Value.int J3_0) ?_
        refine wp_if_t rfl rfl ?_
        have hl3 := lkS_1 (st' := st2) (li' := li2) hl2 hf_J3 a_J3 hg_J3 (by decide) (by decide) (by decide) (by decide) (by decide)
        have hs3 : spO ck.2.2.1 b tot J3 st2 o := spO_gf hs2 hg_J3 (by decide) (by decide) (by decide)
        refine wp_step rfl rfl ?_
        refine wp_c0 rfl rfl (by decide) rfl (recv_ok a_J3 rfl) rfl (q_mworth hb hl3 hs3 (fun T4 J4 hf4 hg4 hl4 => ?_))
        have ew : wrV ck.2.2.1 b tot o = wrE b tot re yv o := by
          cases o with
          | none => rfl
          | some w => unfold wrV wrE; dsimp only; rw [hl4.2.2.2]
        rw [ew]
        refine wp_lret rfl rfl (hret k yv o T4 J4 st2 li2 K2 hk hyv el (fr_trans hf2 (fr_trans (fr_mono hf_J3 (fun j hj => by simp only [List.mem_cons, List.not_mem_nil, or_false] at hj ⊢; omega)) (fr_mono hf4 (fun j hj => by simp only [List.mem_cons, List.not_mem_nil, or_false] at hj ⊢; omega)))) (gf_trans (gf_mono hg2 (fun j hj => by simp only [List.mem_cons, List.not_mem_nil, or_false] at hj ⊢; omega)) (gf_trans (gf_mono hg_J3 (fun j hj => by simp only [List.mem_cons, List.not_mem_nil, or_false] at hj ⊢; omega)) (gf_mono hg4 (fun j hj => by simp only [List.mem_cons, List.not_mem_nil, or_false] at hj ⊢; omega)))) ((hg4 0 (by decide)).trans J3_0) hl4.1)
      · replace c0 := z_ne_f (a := kdR b (some o)) (by omega) c0
        omega
  · refine wp_if_f rfl rfl ?_
    iterate 2 refine wp_step rfl rfl ?_
    refine wp_putg rfl h.1 (by decide) rfl rfl ?_
    rw [mkG_i rfl]
    have h_Sx4 : am_get (am_upd S 408 (moC (upd I 0 (Int32.ofInt 1)) st li)) 408 = some (moC (upd I 0 (Int32.ofInt 1)) st li) := am_get_self h.1
    have hf_Sx4 : fr [408] S (am_upd S 408 (moC (upd I 0 (Int32.ofInt 1)) st li)) := fr_up (by simp)
    generalize am_upd S 408 (moC (upd I 0 (Int32.ofInt 1)) st li) = Sx4 at h_Sx4 hf_Sx4 ⊢
    have hg_J1 : gf [0] I (upd I 0 (Int32.ofInt 1)) := gf_up (gf_refl _ _) (by simp)
    have J1_0 : (upd I 0 (Int32.ofInt 1)) 0 = 1 := pk_us
    have a_J1 := h_Sx4
    have hf_J1 := hf_Sx4
    clear h_Sx4 hf_Sx4
    generalize upd I 0 (Int32.ofInt 1) = J1 at a_J1 hg_J1 J1_0
    refine wp_step rfl rfl ?_
    refine wp_getg (v := (.int 1)) rfl a_J1 (by decide) (congrArg Value.int J1_0) ?_
    refine wp_if_f rfl rfl ?_
    iterate 2 refine wp_step rfl rfl ?_
    refine wp_lret rfl rfl (hno hk Sx4 J1 _ _ K (fr_mono hf_J1 (fun j hj => by simp only [List.mem_cons, List.not_mem_nil, or_false] at hj ⊢; omega)) (gf_mono hg_J1 (fun j hj => by simp only [List.mem_cons, List.not_mem_nil, or_false] at hj ⊢; omega)) J1_0 (mRc_1 (st' := st) (li' := li) h hf_J1 a_J1 hg_J1 (by decide) (by decide) (by decide)))
set_option maxHeartbeats 1000000 in
theorem q_mletter {S : am_S} {I : Nat → Int32} {st li : Int64} {K : jMK} {e path i : Int32} (hb : ∀ j, b j < 256) (hR : reQ b tot re) (hP : evP b tot re) (hE : evR b tot re) (h : mRc S I st li b v tot re M E C K)
    (hret : ∀ k y w j x T J st' li' K', idx e re.2.1.length = some k → re.2.1[k]? = some y → isTx b (ldE b tot re y path) = some w → idx i (lsOf b tot w).length = some j → (lsOf b tot w)[j]? = some x → fr [408, 425, 426, 427] S T → gf [0, 19, 20, 21, 22, 24, 29, 33, 35, 36, 57] I J → J 0 = 0 → mRc T J st' li' b v tot re M E C K' → Q (.inl (some (.int (nI x))), T))
    (hnse : ∀ k y T J st' li' K', idx e re.2.1.length = some k → re.2.1[k]? = some y → isTx b (ldE b tot re y path) = none → fr [408, 425, 426, 427] S T → gf [0, 19, 20, 21, 22, 24, 29, 33, 35, 36, 57] I J → J 0 = 2 → mRc T J st' li' b v tot re M E C K' → Q (.inl (some (.int 0)), T))
    (hiae : ∀ k y w T J st' li' K', idx e re.2.1.length = some k → re.2.1[k]? = some y → isTx b (ldE b tot re y path) = some w → idx i (lsOf b tot w).length = none → fr [408, 425, 426, 427] S T → gf [0, 19, 20, 21, 22, 24, 29, 33, 35, 36, 57] I J → J 0 = 3 → mRc T J st' li' b v tot re M E C K' → Q (.inl (some (.int 0)), T))
    (hno : idx e re.2.1.length = none → ∀ T J st' li' K', fr [408, 425, 426, 427] S T → gf [0, 19, 20, 21, 22, 24, 29, 33, 35, 36, 57] I J → J 0 = 1 → mRc T J st' li' b v tot re M E C K' → Q (.inl (some (.int 0)), T)) : ev X (d + 14) 142 [.ref 408, .int e, .int path, .int i] S Q := by
  refine ev_wp (L0 := [some (.ref 408), some (.int e), some (.int path), some (.int i), none]) (Nat.le_of_ble_eq_true rfl) rfl ?_
  iterate 3 refine wp_step rfl rfl ?_
  refine wp_c0 rfl rfl (by decide) rfl (recv_ok h.1 rfl) rfl (q_misEv h (fun k hk => ?_) (fun hk => ?_))
  · obtain ⟨yv, hyv, rfl⟩ := ev_at hk h.2.2.2.2.2.2.2.2.2.2.2.2.1
    refine wp_if_t rfl rfl ?_
    iterate 3 refine wp_step rfl rfl ?_
    refine wp_c0 rfl rfl (by decide) rfl (recv_ok h.1 rfl) rfl (q_mlead (path := path) hb hR hP hE h hyv (fun ck T2 J2 st2 li2 K2 hf2 hg2 hl2 hs2 => ?_))
    obtain ⟨hci, hv, htot, hT, hmck, hC⟩ := lkS_sl hl2
    have hkp : kdR b (ldE b tot re yv path) < 14 := by
      cases el : ldE b tot re yv path with
      | none => show (0 : Nat) < 14; decide
      | some o =>
        rw [el] at hs2
        cases o with
        | none => show (1 : Nat) < 14; decide
        | some w => exact (kdOf_pos hmck.1 hs2.2.2.2.2.2).2
    refine wp_step rfl rfl ?_
    refine wp_icmp rfl (fun c0 => ?_) (fun c0 => ?_)
    · replace c0 := n_eq_t (a := kdR b (ldE b tot re yv path)) (b := 10) (by omega) (by omega) c0
      obtain ⟨w, el⟩ : ∃ w, ldE b tot re yv path = some (some w) := by
        cases el : ldE b tot re yv path with
        | none => rw [el] at c0; exact absurd c0 (show ¬ (0 : Nat) = 10 by decide)
        | some o =>
          rw [el] at c0
          cases o with
          | none => exact absurd c0 (show ¬ (1 : Nat) = 10 by decide)
          | some w => exact ⟨w, rfl⟩
      rw [el] at c0 hs2
      have hk10 : kdOf b w = 10 := c0
      have htx : isTx b (ldE b tot re yv path) = some w := by rw [el]; unfold isTx; dsimp only; rw [if_pos hk10]
      obtain ⟨s1, s2, s3, s4, s5, hg⟩ := id hs2
      obtain ⟨ty, fl, p⟩ := w
      have hfl : fl = 0 ∧ ty = 10 ∧ b p ≠ 0 ∧ b p ≠ 2 := by
        have h2 := hg.2.1
        dsimp only at h2
        unfold kdOf at hk10
        dsimp only at hk10
        by_cases g1 : 2 ≤ fl
        · rw [if_pos g1] at hk10; omega
        · rw [if_neg g1] at hk10
          by_cases g2 : fl = 1
          · rw [if_pos g2] at hk10; omega
          · rw [if_neg g2] at hk10
            by_cases g3 : ty = 10
            · rw [if_pos g3] at hk10
              by_cases g4 : b p = 0
              · rw [if_pos g4] at hk10; omega
              · rw [if_neg g4] at hk10
                by_cases g5 : b p = 2
                · rw [if_pos g5] at hk10; omega
                · exact ⟨by omega, g3, g4, g5⟩
            · rw [if_neg g3] at hk10
              by_cases g4 : ty < 10
              · rw [if_pos g4] at hk10; omega
              · rw [if_neg g4] at hk10; omega
      obtain ⟨rfl, rfl, hb0, hb2⟩ := hfl
      obtain ⟨tv, px, ex⟩ := rdb_text hg.1
      obtain ⟨ls, rfl⟩ : ∃ ls, tv = .inr (.inr ls) := by
        rcases rdX_kd ex with ⟨g1, _⟩ | ⟨g1, _⟩ | ⟨g1, g2, g3⟩
        · exact absurd g1 hb0
        · exact absurd g1 hb2
        · exact g3
      have els : lsOf b tot (10, 0, p) = ls := by unfold lsOf; dsimp only; rw [ex]
      have hlen : ls.length ≤ 960 := by obtain ⟨_, q2, q3⟩ := rdX_pos ex; have := q3 ls rfl; omega
      have hl16 := rdX_l16 hb ex
      rw [← els] at hlen hl16
      refine wp_step rfl rfl ?_
      refine wp_putg rfl hl2.1.1 (by decide) rfl rfl ?_
      rw [mkG_i rfl]
      have h_Sx9 : am_get (am_upd T2 408 (moC (upd J2 0 (Int32.ofInt 0)) st2 li2)) 408 = some (moC (upd J2 0 (Int32.ofInt 0)) st2 li2) := am_get_self hl2.1.1
      have hf_Sx9 : fr [408] T2 (am_upd T2 408 (moC (upd J2 0 (Int32.ofInt 0)) st2 li2)) := fr_up (by simp)
      generalize am_upd T2 408 (moC (upd J2 0 (Int32.ofInt 0)) st2 li2) = Sx9 at h_Sx9 hf_Sx9 ⊢
      have hg_J3 : gf [0] J2 (upd J2 0 (Int32.ofInt 0)) := gf_up (gf_refl _ _) (by simp)
      have J3_0 : (upd J2 0 (Int32.ofInt 0)) 0 = 0 := pk_us
      have a_J3 := h_Sx9
      have hf_J3 := hf_Sx9
      clear h_Sx9 hf_Sx9
      generalize upd J2 0 (Int32.ofInt 0) = J3 at a_J3 hg_J3 J3_0
      refine wp_step rfl rfl ?_
      refine wp_getg (v := (.int 0)) rfl a_J3 (by decide) (congrArg Value.int J3_0) ?_
      refine wp_if_t rfl rfl ?_
      have hl3 := lkS_1 (st' := st2) (li' := li2) hl2 hf_J3 a_J3 hg_J3 (by decide) (by decide) (by decide) (by decide) (by decide)
      have j33 : J3 33 = nI p := (hg_J3 33 (by decide)).trans s3
      have hf03 : fr [408, 425, 426, 427] S Sx9 := fr_trans hf2 (fr_mono hf_J3 (fun j hj => by simp only [List.mem_cons, List.not_mem_nil, or_false] at hj ⊢; omega))
      have hg03 : gf [0, 19, 20, 21, 22, 24, 29, 33, 35, 36, 57] I J3 := gf_trans (gf_mono hg2 (fun j hj => by simp only [List.mem_cons, List.not_mem_nil, or_false] at hj ⊢; omega)) (gf_mono hg_J3 (fun j hj => by simp only [List.mem_cons, List.not_mem_nil, or_false] at hj ⊢; omega))
      have bad : ∀ T5 J5, idx i (lsOf b tot (10, 0, p)).length = none → fr [408, 425, 426, 427] S T5 → gf [0, 19, 20, 21, 22, 24, 29, 33, 35, 36, 57] I J5 → lkS T5 J5 st2 li2 b v tot re M E C K2 yv.1 ck → wp X (d + 13) 142 54 [some (.ref 408), some (.int (nI k)), some (.int path), some (.int i), none] [.int (-1)] T5 Q := by
        intro T5 J5 hx hf5 hg5 h5
        refine wp_step rfl rfl ?_
        show wp X (d + 13) 142 56 [some (.ref 408), some (.int (nI k)), some (.int path), some (.int i), some (.int (-1))] [] T5 Q
        refine wp_step rfl rfl ?_
        refine wp_if_f rfl rfl ?_
        iterate 2 refine wp_step rfl rfl ?_
        refine wp_c0 rfl rfl (by decide) rfl (recv_ok h5.1.1 rfl) rfl (q_mfails h5.1.1 (fun T6 J6 hf6 hg6 a6 j6 => ?_))
        refine wp_step rfl rfl ?_
        refine wp_iret rfl rfl rfl (hiae k yv (10, 0, p) T6 J6 st2 li2 K2 hk hyv htx hx (fr_trans hf5 (fr_mono hf6 (fun j hj => by simp only [List.mem_cons, List.not_mem_nil, or_false] at hj ⊢; omega))) (gf_trans hg5 (gf_mono hg6 (fun j hj => by simp only [List.mem_cons, List.not_mem_nil, or_false] at hj ⊢; omega))) j6 (mRc_1 h5.1 hf6 a6 hg6 (by decide) (by decide) (by decide)))
      refine wp_step rfl rfl ?_
      refine wp_if rfl (fun c1 => ?_) (fun c1 => ?_)
      · replace c1 := q_ge_t c1
        obtain ⟨iN, hiN, rfl⟩ : ∃ n : Nat, n < 2 ^ 31 ∧ i = nI n := by
          refine ⟨i.toInt.toNat, ?_, Int32.toInt_inj.mp ?_⟩
          · have := Int32.toInt_lt i; omega
          · have h0 : 0 ≤ i.toInt := by
              have := c1
              rw [Int32.le_iff_toInt_le] at this
              simpa using this
            rw [nI_toInt (by have := Int32.toInt_lt i; omega)]
            omega
        iterate 2 refine wp_step rfl rfl ?_
        refine wp_c0 rfl rfl (by decide) rfl (recv_ok a_J3 rfl) rfl (q_mcharAt (i := nI iN) hb hl3 j33 ex (fun T4 J4 hf4 hg4 hl4 => ?_))
        have hf04 : fr [408, 425, 426, 427] S T4 := fr_trans hf03 (fr_mono hf4 (fun j hj => by simp only [List.mem_cons, List.not_mem_nil, or_false] at hj ⊢; omega))
        have hg04 : gf [0, 19, 20, 21, 22, 24, 29, 33, 35, 36, 57] I J4 := gf_trans hg03 (gf_mono hg4 (fun j hj => by simp only [List.mem_cons, List.not_mem_nil, or_false] at hj ⊢; omega))
        rw [← els, caR_at _ 0 iN (Nat.zero_le _) hiN (by omega), Nat.sub_zero]
        cases ei : (lsOf b tot (10, 0, p))[iN]? with
        | none =>
          have hge := List.getElem?_eq_none_iff.mp ei
          exact bad T4 J4 (by unfold idx; rw [if_neg (by rw [nI_toInt hiN]; omega)]) hf04 hg04 hl4
        | some x =>
          have hx16 := hl16 x (List.mem_of_getElem? ei)
          have hlt := (List.getElem?_eq_some_iff.mp ei).1
          refine wp_step rfl rfl ?_
          show wp X (d + 13) 142 56 [some (.ref 408), some (.int (nI k)), some (.int path), some (.int (nI iN)), some (.int (nI x))] [] T4 Q
          refine wp_step rfl rfl ?_
          refine wp_if_t rfl (c1_ge_n (by omega)) ?_
          refine wp_step rfl rfl ?_
          refine wp_iret rfl rfl rfl (hret k yv (10, 0, p) iN x T4 J4 st2 li2 K2 hk hyv htx (idx_nI hlt (by omega)) ei hf04 hg04 ((hg4 0 (by decide)).trans J3_0) hl4.1)
      · replace c1 := q_ge_f c1
        iterate 2 refine wp_step rfl rfl ?_
        exact bad Sx9 J3 (idx_neg (Int32.not_le.mp c1)) hf03 hg03 hl3
    · replace c0 := n_eq_f (a := kdR b (ldE b tot re yv path)) (b := 10) (by omega) (by omega) c0
      have htx : isTx b (ldE b tot re yv path) = none := by
        cases el : ldE b tot re yv path with
        | none => rfl
        | some o =>
          rw [el] at c0
          cases o with
          | none => rfl
          | some w => unfold isTx; dsimp only; rw [if_neg (show ¬ kdOf b w = 10 from c0)]
      iterate 2 refine wp_step rfl rfl ?_
      refine wp_putg rfl hl2.1.1 (by decide) rfl rfl ?_
      rw [mkG_i rfl]
      have h_Sx8 : am_get (am_upd T2 408 (moC (upd J2 0 (Int32.ofInt 2)) st2 li2)) 408 = some (moC (upd J2 0 (Int32.ofInt 2)) st2 li2) := am_get_self hl2.1.1
      have hf_Sx8 : fr [408] T2 (am_upd T2 408 (moC (upd J2 0 (Int32.ofInt 2)) st2 li2)) := fr_up (by simp)
      generalize am_upd T2 408 (moC (upd J2 0 (Int32.ofInt 2)) st2 li2) = Sx8 at h_Sx8 hf_Sx8 ⊢
      have hg_J3 : gf [0] J2 (upd J2 0 (Int32.ofInt 2)) := gf_up (gf_refl _ _) (by simp)
      have J3_0 : (upd J2 0 (Int32.ofInt 2)) 0 = 2 := pk_us
      have a_J3 := h_Sx8
      have hf_J3 := hf_Sx8
      clear h_Sx8 hf_Sx8
      generalize upd J2 0 (Int32.ofInt 2) = J3 at a_J3 hg_J3 J3_0
      refine wp_step rfl rfl ?_
      refine wp_getg (v := (.int 2)) rfl a_J3 (by decide) (congrArg Value.int J3_0) ?_
      refine wp_if_f rfl rfl ?_
      refine wp_step rfl rfl ?_
      refine wp_iret rfl rfl rfl (hnse k yv Sx8 J3 st2 li2 K2 hk hyv htx (fr_trans hf2 (fr_mono hf_J3 (fun j hj => by simp only [List.mem_cons, List.not_mem_nil, or_false] at hj ⊢; omega))) (gf_trans (gf_mono hg2 (fun j hj => by simp only [List.mem_cons, List.not_mem_nil, or_false] at hj ⊢; omega)) (gf_mono hg_J3 (fun j hj => by simp only [List.mem_cons, List.not_mem_nil, or_false] at hj ⊢; omega))) J3_0 (mRc_1 hl2.1 hf_J3 a_J3 hg_J3 (by decide) (by decide) (by decide)))
  · refine wp_if_f rfl rfl ?_
    iterate 2 refine wp_step rfl rfl ?_
    refine wp_putg rfl h.1 (by decide) rfl rfl ?_
    rw [mkG_i rfl]
    have h_Sx7 : am_get (am_upd S 408 (moC (upd I 0 (Int32.ofInt 1)) st li)) 408 = some (moC (upd I 0 (Int32.ofInt 1)) st li) := am_get_self h.1
    have hf_Sx7 : fr [408] S (am_upd S 408 (moC (upd I 0 (Int32.ofInt 1)) st li)) := fr_up (by simp)
    generalize am_upd S 408 (moC (upd I 0 (Int32.ofInt 1)) st li) = Sx7 at h_Sx7 hf_Sx7 ⊢
    have hg_J1 : gf [0] I (upd I 0 (Int32.ofInt 1)) := gf_up (gf_refl _ _) (by simp)
    have J1_0 : (upd I 0 (Int32.ofInt 1)) 0 = 1 := pk_us
    have a_J1 := h_Sx7
    have hf_J1 := hf_Sx7
    clear h_Sx7 hf_Sx7
    generalize upd I 0 (Int32.ofInt 1) = J1 at a_J1 hg_J1 J1_0
    refine wp_step rfl rfl ?_
    refine wp_getg (v := (.int 1)) rfl a_J1 (by decide) (congrArg Value.int J1_0) ?_
    refine wp_if_f rfl rfl ?_
    refine wp_step rfl rfl ?_
    refine wp_iret rfl rfl rfl (hno hk Sx7 J1 _ _ K (fr_mono hf_J1 (fun j hj => by simp only [List.mem_cons, List.not_mem_nil, or_false] at hj ⊢; omega)) (gf_mono hg_J1 (fun j hj => by simp only [List.mem_cons, List.not_mem_nil, or_false] at hj ⊢; omega)) J1_0 (mRc_1 (st' := st) (li' := li) h hf_J1 a_J1 hg_J1 (by decide) (by decide) (by decide)))
end MVALUE
