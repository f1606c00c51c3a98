/-! THE MODEL: event -/
/-- what is known of the chunks of a recording -/
def ckQ (b : Nat → Nat) (tot : Nat) (re : jRe) : Prop := ∀ (i : Nat) (ck : jCk), re.2.2[i]? = some ck → w4 b (ck.1 + 16) ≠ 0 ∧ ck.1 + 20 ≤ tot
section MEVENT2
variable {X : Nat × (Nat → Int32)} {d : Nat} {Q : am_R → Prop} {S : am_S} {I : Nat → Int32} {st li : Int64} {b : Nat → Nat} {v tot : Nat} {re : jRe} {M : jMT} {E : jME} {C : jMC} {K : jMK}
set_option maxHeartbeats 2000000 in
theorem q_mevent {e what : Int32} (hb : ∀ j, b j < 256) (h : mRc S I st li b v tot re M E C K) (hP : evP b tot re) (hcq : ckQ b tot re)
    (h_0 : ∀ k y, idx e re.2.1.length = some k → re.2.1[k]? = some y → what = nI 0 → ∀ T J li', fr [408] S T → gf [0, 19, 20, 21, 22, 57] I J → mRc T J st li' b v tot re M E C K → J 0 = 0 → Q (.inl (some (.long (lN y.1))), T))
    (h_1 : ∀ k y, idx e re.2.1.length = some k → re.2.1[k]? = some y → what = nI 1 → ∀ T J li', fr [408] S T → gf [0, 19, 20, 21, 22, 57] I J → mRc T J st li' b v tot re M E C K → J 0 = 0 → Q (.inl (some (.long (wrE b tot re y (some (y.2.2.2.1, 0, y.2.2.2.2.1))))), T))
    (h_2 : ∀ k y, idx e re.2.1.length = some k → re.2.1[k]? = some y → what = nI 2 → ∀ T J li', fr [408] S T → gf [0, 19, 20, 21, 22, 57] I J → mRc T J st li' b v tot re M E C K → J 0 = 0 → Q (.inl (some (.long y.2.2.1)), T))
    (h_3 : ∀ k y, idx e re.2.1.length = some k → re.2.1[k]? = some y → what = nI 3 → ∀ T J li', fr [408] S T → gf [0, 19, 20, 21, 22, 57] I J → mRc T J st li' b v tot re M E C K → J 0 = 0 → Q (.inl (some (.long (nnE b re y))), T))
    (hthr : idx e re.2.1.length = none → ∀ T J li', fr [408] S T → gf [0, 19, 20, 21, 22, 57] I J → mRc T J st li' b v tot re M E C K → J 0 = 1 → Q (.inl (some (.long 0)), T)) (hiae : ∀ k, idx e re.2.1.length = some k → (what.toInt < 0 ∨ (3 : Int) < what.toInt) → ∀ T J li', fr [408] S T → gf [0, 19, 20, 21, 22, 57] I J → mRc T J st li' b v tot re M E C K → J 0 = 2 → Q (.inl (some (.long 0)), T)) : ev X (d + 6) 131 [.ref 408, .int e, .int what] S Q := by
  refine ev_wp (L0 := [some (.ref 408), some (.int e), some (.int what), none, none]) (Nat.le_of_ble_eq_true rfl) rfl ?_
  have h60 := h.2.2.2.2.2.2.2.2.2.2.2.2.1
  iterate 3 refine wp_step rfl rfl ?_
  refine wp_c0 rfl rfl (by decide) rfl (recv_ok h.1 rfl) rfl (q_misEv h (fun k hk => ?_) (fun hn => ?_))
  · refine wp_if_t rfl rfl ?_
    obtain ⟨hek, hkl⟩ := idx_some hk (by omega)
    obtain ⟨y, hy⟩ : ∃ y, re.2.1[k]? = some y := ⟨_, List.getElem?_eq_getElem hkl⟩
    have bad : (what.toInt < 0 ∨ (3 : Int) < what.toInt) → wp X (d + 5) 131 22 [some (.ref 408), some (.int e), some (.int what), none, none] [.ref 408] S Q := by
      intro hbd
      iterate 2 refine wp_step rfl rfl ?_
      refine wp_putg rfl h.1 (by decide) rfl rfl ?_
      rw [mkG_i rfl]
      have h1 : am_get (am_upd S 408 (moC (upd I 0 (Int32.ofInt 2)) st li)) 408 = some (moC (upd I 0 (Int32.ofInt 2)) st li) := am_get_self h.1
      have hf1 : fr [408] S (am_upd S 408 (moC (upd I 0 (Int32.ofInt 2)) st li)) := fr_up (by simp)
      generalize am_upd S 408 (moC (upd I 0 (Int32.ofInt 2)) st li) = S1 at h1 hf1 ⊢
      have hg1 : gf [0] I (upd I 0 (Int32.ofInt 2)) := gf_up (gf_refl _ _) (by simp)
      have k0 : (upd I 0 (Int32.ofInt 2)) 0 = 2 := pk_us
      generalize upd I 0 (Int32.ofInt 2) = I1 at h1 hg1 k0
      have hR1 : mRc S1 I1 st li b v tot re M E C K := mRc_up h hf1 (fun j hj => by simp only [List.mem_cons, List.not_mem_nil, or_false] at hj; omega) h1 hg1 (by decide) (by decide) (by decide) (mSk_fr h.2.2.2.2.2.2.2.2.2.2.2.2.2.2.2.2 hf1 (fun j hj => by simp only [List.mem_cons, List.not_mem_nil, or_false] at hj; omega))
      have hgE : gf [0, 19, 20, 21, 22, 57] I I1 := gf_mono hg1 (fun j hj => by simp only [List.mem_cons, List.not_mem_nil, or_false] at hj ⊢; omega)
      refine wp_step rfl rfl ?_
      refine wp_getg (v := (.int 2)) rfl h1 (by decide) (congrArg Value.int k0) ?_
      refine wp_if_f rfl rfl ?_
      refine wp_step rfl rfl ?_
      refine wp_lret rfl rfl (hiae k hk hbd S1 I1 li hf1 hgE hR1 k0)
    rcases tcase what 3 (by decide) with ⟨q, h8, h9⟩ | h9
    · subst h9
      subst hek
      clear bad
      refine wp_step rfl rfl ?_
      refine wp_if rfl (fun c0 => ?_) (fun c0 => ?_)
      · replace c0 := z_lt_t (a := q) (by omega) c0
        exact c0.elim
      · replace c0 := z_lt_f (a := q) (by omega) c0
        iterate 2 refine wp_step rfl rfl ?_
        refine wp_icmp rfl (fun c1 => ?_) (fun c1 => ?_)
        · replace c1 := n_le_t (a := q) (b := 3) (by omega) (by omega) c1
          refine wp_step rfl rfl ?_
          refine wp_putg rfl h.1 (by decide) rfl rfl ?_
          rw [mkG_i rfl]
          have h1 : am_get (am_upd S 408 (moC (upd I 0 (Int32.ofInt 0)) st li)) 408 = some (moC (upd I 0 (Int32.ofInt 0)) st li) := am_get_self h.1
          have hf1 : fr [408] S (am_upd S 408 (moC (upd I 0 (Int32.ofInt 0)) st li)) := fr_up (by simp)
          generalize am_upd S 408 (moC (upd I 0 (Int32.ofInt 0)) st li) = S1 at h1 hf1 ⊢
          have hg1 : gf [0] I (upd I 0 (Int32.ofInt 0)) := gf_up (gf_refl _ _) (by simp)
          have k0 : (upd I 0 (Int32.ofInt 0)) 0 = 0 := pk_us
          generalize upd I 0 (Int32.ofInt 0) = I1 at h1 hg1 k0
          have hR1 : mRc S1 I1 st li b v tot re M E C K := mRc_up h hf1 (fun j hj => by simp only [List.mem_cons, List.not_mem_nil, or_false] at hj; omega) h1 hg1 (by decide) (by decide) (by decide) (mSk_fr h.2.2.2.2.2.2.2.2.2.2.2.2.2.2.2.2 hf1 (fun j hj => by simp only [List.mem_cons, List.not_mem_nil, or_false] at hj; omega))
          have hgE : gf [0, 19, 20, 21, 22, 57] I I1 := gf_mono hg1 (fun j hj => by simp only [List.mem_cons, List.not_mem_nil, or_false] at hj ⊢; omega)
          refine wp_step rfl rfl ?_
          refine wp_getg (v := (.int 0)) rfl h1 (by decide) (congrArg Value.int k0) ?_
          refine wp_if_t rfl rfl ?_
          iterate 2 refine wp_step rfl rfl ?_
          refine wp_c0 rfl rfl (by decide) rfl (recv_ok h1 rfl) rfl (q_mgo (d := d) hb hR1 hP hy (fun ck len p1 p2 T J hck hkd eh en hf2 hg2 j20 h57 h2 hR2 => ?_))
          have hf02 : fr [408] S T := fr_trans hf1 hf2
          have hg02 : gf [0, 19, 20, 21, 22, 57] I J := gf_trans hgE (gf_mono hg2 (fun j hj => by simp only [List.mem_cons, List.not_mem_nil, or_false] at hj ⊢; omega))
          have j0 : J 0 = 0 := (hg2 0 (by decide)).trans k0
          obtain ⟨a1, a2, a3, a4, a5, a6, a7, a8, a9, a10, a11, a12, a13, a14, a15, a16, a17⟩ := id hR2
          have hci := (List.getElem?_eq_some_iff.mp hck).1
          have hho := hd_ok eh
          obtain ⟨hTy, hwf, hfh, hnc⟩ := a10 y.1 ck hck
          refine wp_step rfl rfl ?_
          refine wp_if rfl (fun c2 => ?_) (fun c2 => ?_)
          · replace c2 := z_ne_t (a := q) (by omega) c2
            iterate 2 refine wp_step rfl rfl ?_
            refine wp_icmp rfl (fun c3 => ?_) (fun c3 => ?_)
            · replace c3 := n_ne_t (a := q) (b := 1) (by omega) (by omega) c3
              refine wp_step rfl rfl ?_
              refine wp_c0 rfl rfl (by decide) rfl (recv_ok h2.1 rfl) rfl (q_mcomp hb h2 (fun tk q2 T3 J3 e3 hf3 hg3 h3 => ?_) (fun vv T3 J3 e3 hf3 hg3 h3 hq3 => ?_))
              · rw [en] at e3; cases e3
                have hf03 : fr [408] S T3 := fr_trans hf02 hf3
                have hg03 : gf [0, 19, 20, 21, 22, 57] I J3 := gf_trans hg02 (gf_mono hg3 (fun j hj => by simp only [List.mem_cons, List.not_mem_nil, or_false] at hj ⊢; omega))
                have hR3 : mRc T3 J3 st (lN y.2.2.2.1) b v tot re M E C K := mRc_up hR2 hf3 (fun j hj => by simp only [List.mem_cons, List.not_mem_nil, or_false] at hj; omega) h3.1 hg3 (by decide) (by decide) (by decide) (mSk_fr a17 hf3 (fun j hj => by simp only [List.mem_cons, List.not_mem_nil, or_false] at hj; omega))
                have j03 : J3 0 = 0 := (hg3 0 (by decide)).trans j0
                refine wp_step rfl rfl ?_
                show wp X (d + 5) 131 87 [some (.ref 408), some (.int (nI k)), some (.int (nI q)), some (.long y.2.2.1), none] [] T3 Q
                iterate 2 refine wp_step rfl rfl ?_
                refine wp_icmp rfl (fun c4 => ?_) (fun c4 => ?_)
                · replace c4 := n_ne_t (a := q) (b := 2) (by omega) (by omega) c4
                  have hq3 : q = 3 := by omega
                  obtain ⟨hw4, hc20⟩ := hcq y.1 ck hck
                  have hlp : 0 < lN (w4 b (ck.1 + 16)) := lN_pos hw4 (fxN_lt hb (p := ck.1 + 16) 4)
                  have hC3 := mCA_fr a14 hf3 (fun j hj => by simp only [List.mem_cons, List.not_mem_nil, or_false] at hj; omega)
                  iterate 3 refine wp_step rfl rfl ?_
                  refine wp_getg rfl h3.1 (by decide) rfl ?_
                  refine wp_step rfl rfl ?_
                  refine wp_getg (v := (.int (nI (4 * v + y.1)))) rfl h3.1 (by decide) (congrArg Value.int ((hg3 20 (by decide)).trans j20)) ?_
                  refine wp_ald rfl (Or.inl ⟨rfl, rfl⟩) (by decide) hC3.2 (am_in_nI (by omega) (by decide)) ?_
                  rw [nI_clamp (by omega)]
                  rw [a15.2 y.1 ck hck]
                  refine wp_c0 rfl rfl (by decide) rfl (recv_ok h3.1 rfl) rfl (q_mnanos (d := d + 1) hb h3.1 h3.2.1 h3.2.2.1 a3 (by omega) hlp ?_)
                  refine wp_lret rfl rfl ?_
                  have e9 := h_3 k y hk hy (by rw [hq3]) T3 J3 _ hf03 hg03 hR3 j03
                  unfold nnE at e9
                  rw [hck] at e9
                  exact e9
                · replace c4 := n_ne_f (a := q) (b := 2) (by omega) (by omega) c4
                  iterate 2 refine wp_step rfl rfl ?_
                  refine wp_lret rfl rfl (h_2 k y hk hy (by rw [c4]) T3 J3 _ hf03 hg03 hR3 j03)
              · rw [en] at e3; cases e3
            · replace c3 := n_ne_f (a := q) (b := 1) (by omega) (by omega) c3
              obtain ⟨u, x, hu, hx, hx1⟩ := hkd
              have hul := (wf_ty hwf hx).2
              have hwl := hwf.1
              have hxk := (wf_ty hwf hx).1
              unfold tyOK at hxk
              have h16 := tix_ten hwf hu
              refine wp_step rfl rfl ?_
              refine wp_getg rfl a1 (by decide) rfl ?_
              iterate 2 refine wp_step rfl rfl ?_
              refine wp_getg (v := (.long (lN y.2.2.2.1))) rfl a1 (by decide) rfl ?_
              refine wp_step rfl rfl ?_
              refine wp_c0 rfl rfl (by decide) rfl (recv_ok a1 rfl) rfl (q_mtypeOf (kd := some 1) a1 j20 a9 hTy (by omega) hwf.1 (by omega) (fun k hk => by cases hk; decide) (fun i z hz => by have := (wf_ty hwf hz).1; unfold tyOK at this; omega) ?_)
              rw [show tof ck.2.2.1 y.2.2.2.1 (some 1) = some u from tixk_of hwf hu hx hx1]
              unfold mO
              dsimp only
              refine wp_ald rfl (Or.inl ⟨rfl, rfl⟩) (by decide) a9.2.2.1 (am_in_nI (by omega) (by decide)) ?_
              rw [nI_clamp (by omega)]
              rw [(hTy.2 u x hx).2.1]
              refine wp_step rfl rfl ?_
              rw [nI_l (by omega)]
              refine wp_lret rfl rfl ?_
              have e9 := h_1 k y hk hy (by rw [c3]) T J _ hf02 hg02 hR2 j0
              have ew : wrE b tot re y (some (y.2.2.2.1, 0, y.2.2.2.2.1)) = lN x.2.1 := by
                have hkk : kdOf b (y.2.2.2.1, 0, y.2.2.2.2.1) = 11 := by
                  unfold kdOf
                  dsimp only
                  rw [if_neg (by omega), if_neg (by omega), if_neg (by omega), if_neg (by omega)]
                unfold wrE
                rw [hck]
                dsimp only
                unfold wrOf
                rw [hkk, if_neg (by decide), if_neg (by decide), if_pos rfl]
                dsimp only
                rw [hu]
                dsimp only
                rw [hx]
              rw [ew] at e9
              exact e9
          · replace c2 := z_ne_f (a := q) (by omega) c2
            refine wp_step rfl rfl ?_
            refine wp_getg (v := (.int (nI (4 * v + y.1)))) rfl a1 (by decide) (congrArg Value.int j20) ?_
            iterate 2 refine wp_step rfl rfl ?_
            refine wp_getg (v := (.int (nI v))) rfl a1 (by decide) (congrArg Value.int h2.2.2.1) ?_
            refine wp_step rfl rfl ?_
            rw [show Int32.ofInt 4 * nI v = nI (4 * v) from pk_mul 4 v]
            refine wp_step rfl rfl ?_
            rw [pk_sub (by omega), show 4 * v + y.1 - 4 * v = y.1 by omega]
            refine wp_step rfl rfl ?_
            rw [nI_l (by omega)]
            refine wp_lret rfl rfl (h_0 k y hk hy (by rw [c2]) T J _ hf02 hg02 hR2 j0)
        · replace c1 := n_le_f (a := q) (b := 3) (by omega) (by omega) c1
          omega
    · refine wp_step rfl rfl ?_
      refine wp_if rfl (fun c0 => ?_) (fun c0 => ?_)
      · replace c0 := q_lt_t c0
        exact bad h9
      · replace c0 := q_lt_f c0
        iterate 2 refine wp_step rfl rfl ?_
        refine wp_icmp rfl (fun c1 => ?_) (fun c1 => ?_)
        · replace c1 := i_le_t c1
          exfalso
          rw [Int32.le_iff_toInt_le] at c1
          have c1' : what.toInt ≤ 3 := c1
          rw [Int32.lt_iff_toInt_lt] at c0
          have c0' : ¬ what.toInt < 0 := c0
          omega
        · replace c1 := i_le_f c1
          exact bad h9
  · refine wp_if_f rfl rfl ?_
    iterate 2 refine wp_step rfl rfl ?_
    refine wp_putg rfl h.1 (by decide) rfl rfl ?_
    rw [mkG_i rfl]
    have h1 : am_get (am_upd S 408 (moC (upd I 0 (Int32.ofInt 1)) st li)) 408 = some (moC (upd I 0 (Int32.ofInt 1)) st li) := am_get_self h.1
    have hf1 : fr [408] S (am_upd S 408 (moC (upd I 0 (Int32.ofInt 1)) st li)) := fr_up (by simp)
    generalize am_upd S 408 (moC (upd I 0 (Int32.ofInt 1)) st li) = S1 at h1 hf1 ⊢
    have hg1 : gf [0] I (upd I 0 (Int32.ofInt 1)) := gf_up (gf_refl _ _) (by simp)
    have k0 : (upd I 0 (Int32.ofInt 1)) 0 = 1 := pk_us
    generalize upd I 0 (Int32.ofInt 1) = I1 at h1 hg1 k0
    have hR1 : mRc S1 I1 st li b v tot re M E C K := mRc_up h hf1 (fun j hj => by simp only [List.mem_cons, List.not_mem_nil, or_false] at hj; omega) h1 hg1 (by decide) (by decide) (by decide) (mSk_fr h.2.2.2.2.2.2.2.2.2.2.2.2.2.2.2.2 hf1 (fun j hj => by simp only [List.mem_cons, List.not_mem_nil, or_false] at hj; omega))
    have hgE : gf [0, 19, 20, 21, 22, 57] I I1 := gf_mono hg1 (fun j hj => by simp only [List.mem_cons, List.not_mem_nil, or_false] at hj ⊢; omega)
    refine wp_step rfl rfl ?_
    refine wp_getg (v := (.int 1)) rfl h1 (by decide) (congrArg Value.int k0) ?_
    refine wp_if_f rfl rfl ?_
    refine wp_step rfl rfl ?_
    refine wp_lret rfl rfl (hthr hn S1 I1 li hf1 hgE hR1 k0)
end MEVENT2
