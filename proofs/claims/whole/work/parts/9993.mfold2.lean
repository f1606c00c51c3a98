/-! THE MODEL: fold -/
section MFOLD2
variable {X : Nat × (Nat → Int32)} {d : Nat} {Q : am_R → Prop} {b : Nat → Nat} {v tot : Nat} {re : jRe} {M : jMT} {E : jME} {C : jMC}
theorem nI_nn {w : Nat} (hw : w < 2 ^ 31) : ¬ nI w < 0 := by
  rw [Int32.lt_iff_toInt_lt, nI_toInt hw, show (0 : Int32).toInt = 0 from rfl]
  omega
theorem i32_nn {x : Int32} (h : ¬ x < 0) : ∃ n : Nat, n < 2 ^ 31 ∧ x = nI n := by
  have h0 : 0 ≤ x.toInt := by
    have := Int32.not_lt.mp h
    rw [Int32.le_iff_toInt_le] at this
    simpa using this
  have hx := Int32.toInt_lt x
  refine ⟨x.toInt.toNat, by omega, Int32.toInt_inj.mp ?_⟩
  rw [nI_toInt (by omega)]
  omega
theorem fs_loop {S : am_S} {I : Nat → Int32} {st li : Int64} {g : Nat → Int64} {zs : List Int64} {w0 path : Int32} (h : am_get S 408 = some (moC I st li)) (h47 : I 47 = nI zs.length) (hg : am_get S 433 = some (lA 60 g)) (hD : tD g zs) (hl : zs.length ≤ 60) : ∀ (m i : Nat) (a : Int64), i + m = zs.length → Q (.inl (some (.long ((zs.drop i).foldl (fun a x => a + x) a))), S) → wp X d 157 156 [some (.ref 408), some (.int w0), some (.int path), some (.long a), none, some (.int (nI i))] [] S Q := by
  intro m
  induction m with
  | zero =>
    intro i a him hq
    obtain rfl : i = zs.length := by omega
    iterate 2 refine wp_step rfl rfl ?_
    refine wp_getg (v := (.int (nI zs.length))) rfl h (by decide) (congrArg Value.int h47) ?_
    refine wp_icmp rfl (fun c0 => ?_) (fun c0 => ?_)
    · replace c0 := n_ge_t (a := zs.length) (b := zs.length) (by omega) (by omega) c0
      rw [List.drop_eq_nil_of_le (Nat.le_refl _)] at hq
      refine wp_step rfl rfl ?_
      refine wp_lret rfl rfl hq
    · replace c0 := n_ge_f (a := zs.length) (b := zs.length) (by omega) (by omega) c0
      omega
  | succ m ih =>
    intro i a him hq
    iterate 2 refine wp_step rfl rfl ?_
    refine wp_getg (v := (.int (nI zs.length))) rfl h (by decide) (congrArg Value.int h47) ?_
    refine wp_icmp rfl (fun c0 => ?_) (fun c0 => ?_)
    · replace c0 := n_ge_t (a := i) (b := zs.length) (by omega) (by omega) c0
      omega
    · replace c0 := n_ge_f (a := i) (b := zs.length) (by omega) (by omega) c0
      have hil : i < zs.length := by omega
      have hdr : zs.drop i = zs[i] :: zs.drop (i + 1) := List.drop_eq_getElem_cons hil
      have hgi : g i = zs[i] := by rw [hD i hil, List.getD_eq_getElem?_getD, List.getElem?_eq_getElem hil]; rfl
      rw [hdr, List.foldl_cons] at hq
      generalize zs[i] = x at hq hgi
      iterate 2 refine wp_step rfl rfl ?_
      refine wp_getg rfl h (by decide) rfl ?_
      refine wp_step rfl rfl ?_
      refine wp_lald rfl (by decide) hg (am_in_nI (by omega) (by decide)) ?_
      rw [nI_clamp (by omega)]
      rw [hgi]
      iterate 4 refine wp_step rfl rfl ?_
      rw [show nI i + Int32.ofInt 1 = nI (i + 1) from nI_add i 1]
      exact ih (i + 1) (a + x) (by omega) hq
set_option maxHeartbeats 1000000 in
theorem fo_64 {S : am_S} {I : Nat → Int32} {st li : Int64} {g : Nat → Int64} {zs : List Int64} {path : Int32} {w : Nat} (h : am_get S 408 = some (moC I st li)) (h47 : I 47 = nI zs.length) (hg : am_get S 433 = some (lA 60 g)) (hD : tD g zs) (hl : zs.length ≤ 60) (hv : w ≤ 4 ∨ (100 ≤ w ∧ w ≤ 200)) (hq : Q (.inl (some (.long (fvl w zs))), S)) (hnz : 1 < w → zs.length ≠ 0) : wp X (d + 2) 157 64 [some (.ref 408), some (.int (nI w)), some (.int path), none, none, none] [] S Q := by
  refine wp_step rfl rfl ?_
  refine wp_if rfl (fun d0 => ?_) (fun d0 => ?_)
  · replace d0 := z_ne_t (a := w) (by omega) d0
    iterate 2 refine wp_step rfl rfl ?_
    refine wp_icmp rfl (fun d2 => ?_) (fun d2 => ?_)
    · replace d2 := n_ne_t (a := w) (b := 2) (by omega) (by omega) d2
      iterate 2 refine wp_step rfl rfl ?_
      refine wp_icmp rfl (fun d3 => ?_) (fun d3 => ?_)
      · replace d3 := n_ne_t (a := w) (b := 3) (by omega) (by omega) d3
        iterate 2 refine wp_step rfl rfl ?_
        refine wp_icmp rfl (fun d4 => ?_) (fun d4 => ?_)
        · replace d4 := n_ne_t (a := w) (b := 4) (by omega) (by omega) d4
          iterate 2 refine wp_step rfl rfl ?_
          refine wp_icmp rfl (fun d5 => ?_) (fun d5 => ?_)
          · replace d5 := n_le_t (a := w) (b := 4) (by omega) (by omega) d5
            obtain rfl : w = 1 := by omega
            iterate 4 refine wp_step rfl rfl ?_
            show wp X (d + 2) 157 156 [some (.ref 408), some (.int (nI 1)), some (.int path), some (.long 0), none, some (.int (nI 0))] [] S Q
            exact fs_loop h h47 hg hD hl zs.length 0 0 (by omega) (by rw [List.drop_zero]; exact hq)
          · replace d5 := n_le_f (a := w) (b := 4) (by omega) (by omega) d5
            have hz := hnz (by omega)
            have hw : 100 ≤ w ∧ w ≤ 200 := by omega
            have hmul : (w - 100) * zs.length ≤ 100 * zs.length := Nat.mul_le_mul_right _ (by omega)
            have hfv : fvl w zs = zs.getD (((w - 100) * zs.length + 99) / 100 - 1) 0 := by
              unfold fvl
              rw [if_neg d0, if_neg (by omega), if_neg d2, if_neg d3, if_neg d4]
            rw [hfv] at hq
            iterate 4 refine wp_step rfl rfl ?_
            rw [show nI w - (Int8.ofInt 100).toInt32 = nI (w - 100) from (pk_sub (by omega) : nI w - nI 100 = nI (w - 100))]
            refine wp_getg (v := (.int (nI zs.length))) rfl h (by decide) (congrArg Value.int h47) ?_
            refine wp_step rfl rfl ?_
            rw [pk_mul]
            iterate 3 refine wp_step rfl rfl ?_
            rw [show nI ((w - 100) * zs.length) + (Int8.ofInt 99).toInt32 = nI ((w - 100) * zs.length + 99) from nI_add _ 99]
            refine wp_idiv rfl (by decide) ?_
            rw [show nI ((w - 100) * zs.length + 99) / (Int8.ofInt 100).toInt32 = nI (((w - 100) * zs.length + 99) / 100) from nI_div (by omega) (by decide) (by decide)]
            have hqn : ((w - 100) * zs.length + 99) / 100 ≤ zs.length := by omega
            generalize ((w - 100) * zs.length + 99) / 100 = qn at hq hqn ⊢
            iterate 3 refine wp_step rfl rfl ?_
            by_cases hq0 : qn = 0
            · subst hq0
              show wp X (d + 2) 157 136 [some (.ref 408), some (.int (nI w)), some (.int path), some (.int (-1)), none, none] [] S Q
              refine wp_step rfl rfl ?_
              refine wp_getg rfl h (by decide) rfl ?_
              refine wp_step rfl rfl ?_
              refine wp_if_f rfl rfl ?_
              iterate 2 refine wp_step rfl rfl ?_
              refine wp_lald rfl (by decide) hg (by decide) ?_
              rw [show (Int32.ofInt 0) = nI 0 from rfl, nI_clamp (by omega)]
              rw [hD 0 (by omega)]
              refine wp_lret rfl rfl hq
            · rw [show nI qn - Int32.ofInt 1 = nI (qn - 1) from (pk_sub (by omega) : nI qn - nI 1 = nI (qn - 1))]
              show wp X (d + 2) 157 136 [some (.ref 408), some (.int (nI w)), some (.int path), some (.int (nI (qn - 1))), none, none] [] S Q
              refine wp_step rfl rfl ?_
              refine wp_getg rfl h (by decide) rfl ?_
              refine wp_step rfl rfl ?_
              refine wp_if_t rfl (c1_ge_n (by omega)) ?_
              refine wp_step rfl rfl ?_
              refine wp_lald rfl (by decide) hg (am_in_nI (by omega) (by decide)) ?_
              rw [nI_clamp (by omega)]
              rw [hD (qn - 1) (by omega)]
              refine wp_lret rfl rfl hq
        · replace d4 := n_ne_f (a := w) (b := 4) (by omega) (by omega) d4
          subst d4
          have hz := hnz (by omega)
          refine wp_step rfl rfl ?_
          refine wp_c0 rfl rfl (by decide) rfl (recv_ok h rfl) rfl (q_mmean h h47 hg hD hl hz ?_)
          refine wp_lret rfl rfl hq
      · replace d3 := n_ne_f (a := w) (b := 3) (by omega) (by omega) d3
        subst d3
        have hz := hnz (by omega)
        refine wp_step rfl rfl ?_
        refine wp_getg rfl h (by decide) rfl ?_
        refine wp_step rfl rfl ?_
        refine wp_getg (v := (.int (nI zs.length))) rfl h (by decide) (congrArg Value.int h47) ?_
        iterate 2 refine wp_step rfl rfl ?_
        rw [show nI zs.length - Int32.ofInt 1 = nI (zs.length - 1) from (pk_sub (by omega) : nI zs.length - nI 1 = nI (zs.length - 1))]
        refine wp_lald rfl (by decide) hg (am_in_nI (by omega) (by decide)) ?_
        rw [nI_clamp (by omega)]
        rw [hD (zs.length - 1) (by omega)]
        refine wp_lret rfl rfl hq
    · replace d2 := n_ne_f (a := w) (b := 2) (by omega) (by omega) d2
      subst d2
      have hz := hnz (by omega)
      refine wp_step rfl rfl ?_
      refine wp_getg rfl h (by decide) rfl ?_
      refine wp_step rfl rfl ?_
      refine wp_lald rfl (by decide) hg (by decide) ?_
      rw [show (Int32.ofInt 0) = nI 0 from rfl, nI_clamp (by omega)]
      rw [hD 0 (by omega)]
      refine wp_lret rfl rfl hq
  · replace d0 := z_ne_f (a := w) (by omega) d0
    subst d0
    refine wp_step rfl rfl ?_
    refine wp_getg (v := (.int (nI zs.length))) rfl h (by decide) (congrArg Value.int h47) ?_
    refine wp_step rfl rfl ?_
    rw [nI_l (by omega)]
    refine wp_lret rfl rfl hq
theorem fo_45 {S : am_S} {I : Nat → Int32} {st li : Int64} {g : Nat → Int64} {zs : List Int64} {path : Int32} {w : Nat} (h : am_get S 408 = some (moC I st li)) (h47 : I 47 = nI zs.length) (hg : am_get S 433 = some (lA 60 g)) (hD : tD g zs) (hl : zs.length ≤ 60) (hv : w ≤ 4 ∨ (100 ≤ w ∧ w ≤ 200)) (hq : (1 < w → zs.length ≠ 0) → Q (.inl (some (.long (fvl w zs))), S)) (hnse : 1 < w → zs.length = 0 → ∀ T J, fr [408] S T → gf [0] I J → am_get T 408 = some (moC J st li) → J 0 = 2 → Q (.inl (some (.long 0)), T)) : wp X (d + 2) 157 45 [some (.ref 408), some (.int (nI w)), some (.int path), none, none, none] [] S Q := by
  have rest : Q (.inl (some (.long (fvl w zs))), S) → (1 < w → zs.length ≠ 0) → wp X (d + 2) 157 64 [some (.ref 408), some (.int (nI w)), some (.int path), none, none, none] [] S Q := fun a c => fo_64 h h47 hg hD hl hv a c
  refine wp_step rfl rfl ?_
  refine wp_getg (v := (.int (nI zs.length))) rfl h (by decide) (congrArg Value.int h47) ?_
  refine wp_if rfl (fun c0 => ?_) (fun c0 => ?_)
  · replace c0 := z_ne_t (a := zs.length) (by omega) c0
    exact rest (hq (fun _ => c0)) (fun _ => c0)
  · replace c0 := z_ne_f (a := zs.length) (by omega) c0
    iterate 2 refine wp_step rfl rfl ?_
    refine wp_icmp rfl (fun c1 => ?_) (fun c1 => ?_)
    · replace c1 := n_le_t (a := w) (b := 1) (by omega) (by omega) c1
      exact rest (hq (fun h9 => absurd h9 (by omega))) (fun h9 => absurd h9 (by omega))
    · replace c1 := n_le_f (a := w) (b := 1) (by omega) (by omega) c1
      iterate 2 refine wp_step rfl rfl ?_
      refine wp_c0 rfl rfl (by decide) rfl (recv_ok h rfl) rfl (q_mfails h (fun T J hf hg2 a j => ?_))
      refine wp_step rfl rfl ?_
      refine wp_lret rfl rfl (hnse (by omega) c0 T J hf hg2 a j)
  
set_option maxHeartbeats 1000000 in
theorem q_mfold {S : am_S} {I : Nat → Int32} {st li : Int64} {K : jMK} {xs : List Nat} {ch : Nat → Int32} {g : Nat → Int64} {what path : Int32} (hb : ∀ j, b j < 256) (hR : reQ b tot re) (hP : evP b tot re) (hE : evR b tot re) (h : mRc S I st li b v tot re M E C K) (h45 : I 45 = nI xs.length) (hch : am_get S 432 = some (iA 60 ch)) (hxs : chD ch xs) (hxe : ∀ e, e ∈ xs → e < re.2.1.length) (hx60 : xs.length ≤ 60) (hg : am_get S 433 = some (lA 60 g))
    (hiae : ¬ (∃ w, what = nI w ∧ (w ≤ 4 ∨ (100 ≤ w ∧ w ≤ 200))) → ∀ T J st' li' K', fr [408, 425, 426, 427, 433] S T → gf [0, 19, 20, 21, 22, 24, 29, 33, 35, 36, 47, 57] I J → mRc T J st' li' b v tot re M E C K' → J 0 = 1 → (∃ g', am_get T 433 = some (lA 60 g')) → Q (.inl (some (.long (0))), T))
    (hnse : ∀ w T J st' li' K', what = nI w → (w ≤ 4 ∨ (100 ≤ w ∧ w ≤ 200)) → 1 < w → (gat b tot re path xs).length = 0 → fr [408, 425, 426, 427, 433] S T → gf [0, 19, 20, 21, 22, 24, 29, 33, 35, 36, 47, 57] I J → mRc T J st' li' b v tot re M E C K' → J 0 = 2 → (∃ g', am_get T 433 = some (lA 60 g')) → Q (.inl (some (.long (0))), T))
    (hret : ∀ w T J st' li' K', what = nI w → (w ≤ 4 ∨ (100 ≤ w ∧ w ≤ 200)) → (1 < w → (gat b tot re path xs).length ≠ 0) → fr [408, 425, 426, 427, 433] S T → gf [0, 19, 20, 21, 22, 24, 29, 33, 35, 36, 47, 57] I J → mRc T J st' li' b v tot re M E C K' → J 0 = 0 → (∃ g', am_get T 433 = some (lA 60 g')) → Q (.inl (some (.long (fvl w (gat b tot re path xs)))), T)) : ev X (d + 16) 157 [.ref 408, .int what, .int path] S Q := by
  refine ev_wp (L0 := [some (.ref 408), some (.int what), some (.int path), none, none, none]) (Nat.le_of_ble_eq_true rfl) rfl ?_
  have bad : ¬ (∃ w, what = nI w ∧ (w ≤ 4 ∨ (100 ≤ w ∧ w ≤ 200))) → wp X (d + 15) 157 27 [some (.ref 408), some (.int what), some (.int path), none, none, none] [.ref 408] S Q := by
    intro hno
    refine wp_step rfl rfl ?_
    refine wp_putg rfl h.1 (by decide) rfl rfl ?_
    rw [mkG_i rfl]
    have h_Sx1 : am_get (am_upd S 408 (moC (upd I 0 (Int32.ofInt 1)) st li)) 408 = some (moC (upd I 0 (Int32.ofInt 1)) st li) := am_get_self h.1
    have hf_Sx1 : fr [408] S (am_upd S 408 (moC (upd I 0 (Int32.ofInt 1)) st li)) := fr_up (by simp)
    generalize am_upd S 408 (moC (upd I 0 (Int32.ofInt 1)) st li) = Sx1 at h_Sx1 hf_Sx1 ⊢
    have hg_J : gf [0] I (upd I 0 (Int32.ofInt 1)) := gf_up (gf_refl _ _) (by simp)
    have J_0 : (upd I 0 (Int32.ofInt 1)) 0 = 1 := pk_us
    have a_J := h_Sx1
    have hf_J := hf_Sx1
    clear h_Sx1 hf_Sx1
    generalize upd I 0 (Int32.ofInt 1) = J at a_J hg_J J_0
    refine wp_step rfl rfl ?_
    refine wp_getg (v := (.int 1)) rfl a_J (by decide) (congrArg Value.int J_0) ?_
    refine wp_if_f rfl rfl ?_
    refine wp_step rfl rfl ?_
    refine wp_lret rfl rfl (hiae (hno) Sx1 J st li K (fr_mono hf_J (fun j hj => by simp only [List.mem_cons, List.not_mem_nil, or_false] at hj ⊢; omega)) (gf_mono hg_J (fun j hj => by simp only [List.mem_cons, List.not_mem_nil, or_false] at hj ⊢; omega)) (mRc_1 (st' := st) (li' := li) h hf_J a_J hg_J (by decide) (by decide) (by decide)) J_0 ⟨g, by rw [fr_get hf_J (by decide)]; exact hg⟩)
  have good : ∀ w, what = nI w → (w ≤ 4 ∨ (100 ≤ w ∧ w ≤ 200)) → wp X (d + 15) 157 23 [some (.ref 408), some (.int what), some (.int path), none, none, none] [.ref 408] S Q := by
    intro w hwe hwv
    subst hwe
    iterate 2 refine wp_step rfl rfl ?_
    refine wp_putg rfl h.1 (by decide) rfl rfl ?_
    rw [mkG_i rfl]
    have h_Sx2 : am_get (am_upd S 408 (moC (upd I 0 (Int32.ofInt 0)) st li)) 408 = some (moC (upd I 0 (Int32.ofInt 0)) st li) := am_get_self h.1
    have hf_Sx2 : fr [408] S (am_upd S 408 (moC (upd I 0 (Int32.ofInt 0)) st li)) := fr_up (by simp)
    generalize am_upd S 408 (moC (upd I 0 (Int32.ofInt 0)) st li) = Sx2 at h_Sx2 hf_Sx2 ⊢
    have hg_J : gf [0] I (upd I 0 (Int32.ofInt 0)) := gf_up (gf_refl _ _) (by simp)
    have J_0 : (upd I 0 (Int32.ofInt 0)) 0 = 0 := pk_us
    have a_J := h_Sx2
    have hf_J := hf_Sx2
    clear h_Sx2 hf_Sx2
    generalize upd I 0 (Int32.ofInt 0) = J at a_J hg_J J_0
    refine wp_step rfl rfl ?_
    refine wp_getg (v := (.int 0)) rfl a_J (by decide) (congrArg Value.int J_0) ?_
    refine wp_if_t rfl rfl ?_
    have h1 := mRc_1 (st' := st) (li' := li) h hf_J a_J hg_J (by decide) (by decide) (by decide)
    have hgl := gat_len (b := b) (tot := tot) (re := re) (path := path) xs []
    iterate 2 refine wp_step rfl rfl ?_
    refine wp_c0 rfl rfl (by decide) rfl (recv_ok a_J rfl) rfl (q_mgather (path := path) hb hR hP hE h1 ((hg_J 45 (by decide)).trans h45) (by rw [fr_get hf_J (by decide)]; exact hch) hxs hxe hx60 (by rw [fr_get hf_J (by decide)]; exact hg) (fun zs g2 T2 J2 st2 li2 K2 ez hf2 hg2 h2 j47 hga hD => ?_))
    have hz60 : zs.length ≤ 60 := by rw [ez]; unfold gat; simp at hgl; omega
    have hf02 : fr [408, 425, 426, 427, 433] S T2 := fr_trans (fr_mono hf_J (fun j hj => by simp only [List.mem_cons, List.not_mem_nil, or_false] at hj ⊢; omega)) hf2
    have hg02 : gf [0, 19, 20, 21, 22, 24, 29, 33, 35, 36, 47, 57] I J2 := gf_trans (gf_mono hg_J (fun j hj => by simp only [List.mem_cons, List.not_mem_nil, or_false] at hj ⊢; omega)) (gf_mono hg2 (fun j hj => by simp only [List.mem_cons, List.not_mem_nil, or_false] at hj ⊢; omega))
    exact fo_45 (d := d + 13) h2.1 j47 hga hD hz60 hwv (fun hnz => by rw [ez]; exact hret w T2 J2 st2 li2 K2 rfl hwv (by rw [← ez]; exact hnz) hf02 hg02 h2 ((hg2 0 (by decide)).trans J_0) ⟨g2, hga⟩) (fun h1w hz0 T3 J3 hf3 hg3 a3 j3 => hnse w T3 J3 st2 li2 K2 rfl hwv h1w (by rw [← ez]; exact hz0) (fr_trans hf02 (fr_mono hf3 (fun j hj => by simp only [List.mem_cons, List.not_mem_nil, or_false] at hj ⊢; omega))) (gf_trans hg02 (gf_mono hg3 (fun j hj => by simp only [List.mem_cons, List.not_mem_nil, or_false] at hj ⊢; omega))) (mRc_1 h2 hf3 a3 hg3 (by decide) (by decide) (by decide)) j3 ⟨g2, by rw [fr_get hf3 (by decide)]; exact hga⟩)
  iterate 2 refine wp_step rfl rfl ?_
  refine wp_if rfl (fun c0 => ?_) (fun c0 => ?_)
  · replace c0 := q_lt_t c0
    have hno : ¬ (∃ w, what = nI w ∧ (w ≤ 4 ∨ (100 ≤ w ∧ w ≤ 200))) := by
      rintro ⟨w, rfl, hwv⟩
      exact nI_nn (Nat.lt_of_le_of_lt (hwv.elim (fun a => Nat.le_trans a (by decide)) (fun a => a.2)) (by decide : 200 < 2 ^ 31)) c0
    have hlt : what < (Int8.ofInt 100).toInt32 := by
      rw [Int32.lt_iff_toInt_lt] at c0 ⊢
      rw [show (0 : Int32).toInt = 0 from rfl] at c0
      rw [show ((Int8.ofInt 100).toInt32).toInt = 100 from by decide]
      omega
    iterate 2 refine wp_step rfl rfl ?_
    refine wp_icmp_t rfl (decide_eq_true hlt) ?_
    exact bad hno
  · replace c0 := q_lt_f c0
    obtain ⟨w, hw31, rfl⟩ := i32_nn c0
    have hno : ¬ (w ≤ 4 ∨ (100 ≤ w ∧ w ≤ 200)) → ¬ (∃ w', nI w = nI w' ∧ (w' ≤ 4 ∨ (100 ≤ w' ∧ w' ≤ 200))) := by
      rintro h9 ⟨w', e9, hv9⟩
      exact h9 (by rw [(nI_eq hw31 (by omega)).mp e9]; exact hv9)
    iterate 2 refine wp_step rfl rfl ?_
    refine wp_icmp rfl (fun c1 => ?_) (fun c1 => ?_)
    · replace c1 := n_le_t (a := w) (b := 4) (by omega) (by omega) c1
      exact good w rfl (Or.inl c1)
    · replace c1 := n_le_f (a := w) (b := 4) (by omega) (by omega) c1
      iterate 2 refine wp_step rfl rfl ?_
      refine wp_icmp rfl (fun c2 => ?_) (fun c2 => ?_)
      · replace c2 := n_lt_t (a := w) (b := 100) (by omega) (by omega) c2
        exact bad (hno (by omega))
      · replace c2 := n_lt_f (a := w) (b := 100) (by omega) (by omega) c2
        iterate 2 refine wp_step rfl rfl ?_
        refine wp_icmp rfl (fun c3 => ?_) (fun c3 => ?_)
        · replace c3 := n_gt_t (a := w) (b := 200) (by omega) (by omega) c3
          exact bad (hno (by omega))
        · replace c3 := n_gt_f (a := w) (b := 200) (by omega) (by omega) c3
          exact good w rfl (Or.inr ⟨by omega, by omega⟩)
end MFOLD2
