/-! THE MODEL: a spot, and settle -/
/-- chunk ci is looked at -/
def lkS (S : am_S) (I : Nat → Int32) (st li : Int64) (b : Nat → Nat) (v tot : Nat) (re : jRe) (M : jMT) (E : jME) (C : jMC) (K : jMK) (ci : Nat) (ck : jCk) : Prop := mRc S I st li b v tot re M E C K ∧ I 19 = nI v ∧ I 20 = nI (4 * v + ci) ∧ re.2.2[ci]? = some ck
/-- what is true of a recording's chunks and constants -/
def reQ (b : Nat → Nat) (tot : Nat) (re : jRe) : Prop := ∀ (i : Nat) (ck : jCk), re.2.2[i]? = some ck → ckW b tot ck ∧ ∀ k, k ∈ ck.2.2.2 → rdb ck.2.2.1 b tot (k.1, 0, k.2.2.1) ∧ okK ck.2.2.1 k.1 = true
/-- a value that may be looked at -/
def vgd (τ : jTT) (b : Nat → Nat) (tot : Nat) (w : jV) : Prop := rdb τ b tot w ∧ w.2.1 ≤ 3 ∧ w.1 < 2 ^ 31 ∧ w.2.2 ≤ 960 ∧ (knM τ w.1 ∨ (w.2.1 = 0 ∧ isKd τ w.1 1))
/-- the spot is at it -/
def spO (τ : jTT) (b : Nat → Nat) (tot : Nat) (J : Nat → Int32) (st : Int64) : Option jV → Prop
  | none => J 36 = 1
  | some w => J 36 = nI (kdOf b w) ∧ kdOf b w ≠ 13 ∧ J 33 = nI w.2.2 ∧ J 35 = nI w.2.1 ∧ st = lN w.1 ∧ vgd τ b tot w
theorem rdb_key {τ : jTT} {b : Nat → Nat} {tot ty p : Nat} (h : rdb τ b tot (ty, 1, p)) : ∃ key p1, num9 (Bn b) tot p = some (key, p1) := by
  obtain ⟨p', h⟩ := h
  obtain ⟨m', h⟩ := h 0
  dsimp only at h
  unfold rv at h
  rw [if_neg (by simp), if_neg (by decide), if_pos rfl] at h
  cases e : num9 (Bn b) tot p with
  | none => rw [e] at h; cases h
  | some x => exact ⟨x.1, x.2, rfl⟩
theorem rdb_text {τ : jTT} {b : Nat → Nat} {tot p : Nat} (h : rdb τ b tot (10, 0, p)) : ∃ tv p1, rdX b tot p = .inr (tv, p1) := by
  obtain ⟨p', h⟩ := h
  obtain ⟨m', h⟩ := h 0
  dsimp only at h
  unfold rv at h
  rw [if_neg (by simp), if_neg (by decide), if_neg (by decide), if_pos rfl] at h
  cases e : rdX b tot p with
  | inl x => rw [e] at h; cases h
  | inr x => exact ⟨x.1, x.2, rfl⟩
theorem rdX_lt {b : Nat → Nat} {lim p : Nat} {x : jTV × Nat} (h : rdX b lim p = .inr x) : p < lim := by
  unfold rdX at h
  split at h
  · cases h
  · omega
theorem okK_lt {τ : jTT} (hw : wfT τ) {ty : Nat} (h : okK τ ty = true) : ty < 2 ^ 31 := by
  unfold okK at h
  rw [Bool.or_eq_true] at h
  rcases h with h | h
  · have := of_decide_eq_true h; omega
  · obtain ⟨t, x, h1, h2, h3⟩ := kdb_iff.mp h
    obtain ⟨x', e1, e2, _⟩ := tix_some h1
    have h4 := (wf_ty hw e1).1
    unfold tyOK at h4
    omega
theorem cst_mem {L : List jK} {ty : Nat} {key : Int64} {k : jK} (h : cst L ty key = some k) : k ∈ L ∧ k.1 = ty := ⟨List.mem_of_find?_eq_some h, (by have h2 := List.find?_some h; exact (of_decide_eq_true h2).1)⟩
section MSETTLE
variable {X : Nat × (Nat → Int32)} {d : Nat} {Q : am_R → Prop} {b : Nat → Nat} {v tot ci : Nat} {re : jRe} {M : jMT} {E : jME} {C : jMC} {ck : jCk}
theorem lkS_up {S T : am_S} {I J : Nat → Int32} {st li st' li' : Int64} {K K' : jMK} {js ks : List Nat} (h : lkS S I st li b v tot re M E C K ci ck) (hf : fr js S T) (hj : ∀ j, j ∈ js → j < 410 ∨ 425 ≤ j) (hT : am_get T 408 = some (moC J st' li')) (hg : gf ks I J) (h3 : 3 ∉ ks) (h25 : 25 ∉ ks) (h23 : 23 ∉ ks) (h19 : 19 ∉ ks) (h20 : 20 ∉ ks) (hK : mSk T K') : lkS T J st' li' b v tot re M E C K' ci ck :=
  ⟨mRc_up h.1 hf hj hT hg h3 h25 h23 hK, (hg 19 h19).trans h.2.1, (hg 20 h20).trans h.2.2.1, h.2.2.2⟩
theorem lkS_1 {S T : am_S} {I J : Nat → Int32} {st li st' li' : Int64} {K : jMK} {ks : List Nat} (h : lkS S I st li b v tot re M E C K ci ck) (hf : fr [408] S T) (hT : am_get T 408 = some (moC J st' li')) (hg : gf ks I J) (h3 : 3 ∉ ks) (h25 : 25 ∉ ks) (h23 : 23 ∉ ks) (h19 : 19 ∉ ks) (h20 : 20 ∉ ks) : lkS T J st' li' b v tot re M E C K ci ck :=
  lkS_up h hf (fun j hj => by simp only [List.mem_cons, List.not_mem_nil, or_false] at hj; omega) hT hg h3 h25 h23 h19 h20 (mSk_fr h.1.2.2.2.2.2.2.2.2.2.2.2.2.2.2.2.2 hf (fun j hj => by simp only [List.mem_cons, List.not_mem_nil, or_false] at hj; omega))
theorem lkS_wk {S : am_S} {I : Nat → Int32} {st li : Int64} {K : jMK} {p lim : Nat} (h : lkS S I st li b v tot re M E C K ci ck) (h21 : I 21 = nI p) (h22 : I 22 = nI lim) (hp : p ≤ 960) (hl : lim ≤ 960) : mWk S I st li b v p lim (4 * v + ci) M K := by
  obtain ⟨⟨a1, a2, a3, a4, a5, a6, a7, a8, a9, a10, a11, a12, a13, a14, a15, a16, a17⟩, h1, h2, h3⟩ := h
  exact ⟨⟨a1, a4, h1, h21, h22, a7, a3, hp, hl⟩, a17, h2, a8, a9⟩
theorem lkS_of {S T : am_S} {I J : Nat → Int32} {st li st' li' : Int64} {K K' : jMK} {js ks : List Nat} {q lim : Nat} (h : lkS S I st li b v tot re M E C K ci ck) (hf : fr js S T) (hj : ∀ j, j ∈ js → j < 410 ∨ 425 ≤ j) (hg : gf ks I J) (hw : mWk T J st' li' b v q lim (4 * v + ci) M K') (h3 : 3 ∉ ks) (h25 : 25 ∉ ks) (h23 : 23 ∉ ks) (h19 : 19 ∉ ks) (h20 : 20 ∉ ks) : lkS T J st' li' b v tot re M E C K' ci ck :=
  lkS_up h hf hj hw.1.1 hg h3 h25 h23 h19 h20 hw.2.1
theorem lkS_sl {S : am_S} {I : Nat → Int32} {st li : Int64} {K : jMK} (h : lkS S I st li b v tot re M E C K ci ck) : ci < 4 ∧ v ≤ 1 ∧ tot ≤ 960 ∧ mTy M (4 * v + ci) ck.2.2.1 ∧ mckT ck.2.2.1 ∧ C.2 (4 * v + ci) = nI ck.1 := by
  obtain ⟨⟨a1, a2, a3, a4, a5, a6, a7, a8, a9, a10, a11, a12, a13, a14, a15, a16, a17⟩, h1, h2, h3⟩ := h
  have := (List.getElem?_eq_some_iff.mp h3).1
  exact ⟨by omega, a3, a6, (a10 ci ck h3).1, (a10 ci ck h3).2, a15.2 ci ck h3⟩
theorem q_mconst {S : am_S} {I : Nat → Int32} {st li key : Int64} {K : jMK} {ty p lim : Nat} (hb : ∀ j, b j < 256) (hR : reQ b tot re) (h : lkS S I st li b v tot re M E C K ci ck) (hw : mWk S I st li b v p lim (4 * v + ci) M K) (hty : ty < 2 ^ 31) (hq : ∀ T J li' K', fr [408, 425, 426, 427] S T → gf [21, 22, 24, 29, 57] I J → lkS T J st li' b v tot re M E C K' ci ck → (∀ k, cst ck.2.2.2 ty key = some k → k.2.2.1 ≤ 960) → Q (.inl (some (.int (oI ((cst ck.2.2.2 ty key).map (fun k => k.2.2.1))))), T)) : ev X (d + 9) 132 [.ref 408, .long (lN ty), .long key] S Q := by
  refine ev_wp (L0 := [some (.ref 408), some (.long (lN ty)), none, some (.long key), none, none, none, none, none, none, none, none, none, none, none, none]) (Nat.le_of_ble_eq_true rfl) rfl ?_
  obtain ⟨hci, hv, htot, hT, hmck, hC⟩ := lkS_sl h
  obtain ⟨⟨a1, a2, a3, a4, a5, a6, a7, a8, a9, a10, a11, a12, a13, a14, a15, a16, a17⟩, h19, h20, hck⟩ := id h
  obtain ⟨hs1, hs2, hs3, hs4⟩ := (hR ci ck hck).1
  refine wp_step rfl rfl ?_
  refine wp_getg rfl a1 (by decide) rfl ?_
  refine wp_step rfl rfl ?_
  refine wp_getg (v := (.int (nI (4 * v + ci)))) rfl a1 (by decide) (congrArg Value.int h20) ?_
  refine wp_ald rfl (Or.inl ⟨rfl, rfl⟩) (by decide) a14.2 (am_in_nI (by omega) (by decide)) ?_
  rw [nI_clamp (by omega)]
  rw [hC]
  iterate 6 refine wp_step rfl rfl ?_
  rw [show nI ck.1 + (Int8.ofInt 6).toInt32 = nI (ck.1 + 6) from nI_add ck.1 6]
  refine wp_c0 rfl rfl (by decide) rfl (recv_ok a1 rfl) rfl (q_mtwo hb a1 a4 h19 hv (by omega) ?_)
  refine wp_step rfl rfl ?_
  rw [nI_add, ← hs3]
  iterate 5 refine wp_step rfl rfl ?_
  rw [show nI ck.1 + (Int8.ofInt 10).toInt32 = nI (ck.1 + 10) from nI_add ck.1 10]
  refine wp_c0 rfl rfl (by decide) rfl (recv_ok a1 rfl) rfl (q_mtwo hb a1 a4 h19 hv (by omega) ?_)
  have hw2 : w2 b (ck.1 + 10) < 65536 := fxN_lt hb (p := ck.1 + 10) 2
  refine wp_if rfl (fun c0 => ?_) (fun c0 => ?_)
  · replace c0 := z_ne_t (a := w2 b (ck.1 + 10)) (by omega) c0
    iterate 5 refine wp_step rfl rfl ?_
    rw [show nI ck.1 + (Int8.ofInt 10).toInt32 = nI (ck.1 + 10) from nI_add ck.1 10]
    refine wp_c0 rfl rfl (by decide) rfl (recv_ok a1 rfl) rfl (q_mtwo hb a1 a4 h19 hv (by omega) ?_)
    refine wp_step rfl rfl ?_
    rw [nI_add]
    refine wp_step rfl rfl ?_
    show wp X (d + 8) 132 55 [some (.ref 408), some (.long (lN ty)), none, some (.long key), none, some (.int (nI ck.1)), some (.int (nI ck.2.1)), some (.int (nI (ck.1 + w2 b (ck.1 + 10)))), none, none, none, none, none, none, none, none] [] S Q
    rcases hs4 with ⟨g, _⟩ | ⟨_, f, g⟩
    · exact absurd g c0
    · refine cn_out hb hmck hT (by omega) hty (by omega) f _ _ S I K li p lim _ _ _ _ _ _ _ _ (by omega) g hw (fun k9 T J K' li' lim' e hf hg h1 => ?_) (fun T J K' li' q' lim' e hf hg h1 => ?_)
      · have hq0 := hq T J li' K' hf hg (lkS_of h hf (fun j hj => by simp only [List.mem_cons, List.not_mem_nil, or_false] at hj; omega) hg h1 (by decide) (by decide) (by decide) (by decide) (by decide)) (fun k e9 => by rw [e] at e9; cases e9; exact h1.1.2.2.2.2.2.2.2.1)
        rw [e] at hq0
        exact hq0
      · have hq0 := hq T J li' K' hf hg (lkS_of h hf (fun j hj => by simp only [List.mem_cons, List.not_mem_nil, or_false] at hj; omega) hg h1 (by decide) (by decide) (by decide) (by decide) (by decide)) (fun k e9 => by rw [e] at e9; cases e9)
        rw [e] at hq0
        exact hq0
  · replace c0 := z_ne_f (a := w2 b (ck.1 + 10)) (by omega) c0
    iterate 3 refine wp_step rfl rfl ?_
    show wp X (d + 8) 132 55 [some (.ref 408), some (.long (lN ty)), none, some (.long key), none, some (.int (nI ck.1)), some (.int (nI ck.2.1)), some (.int (nI 0)), none, none, none, none, none, none, none, none] [] S Q
    rcases hs4 with ⟨_, g⟩ | ⟨g, _⟩
    · have hq0 := hq S I li K (fr_refl _ _) (gf_refl _ _) h (fun k e => by rw [g] at e; cases e)
      rw [g] at hq0
      refine wp_step rfl rfl ?_
      refine wp_if rfl (fun c2 => ?_) (fun c2 => ?_)
      · replace c2 := z_le_t (a := 0) (by omega) c2
        refine wp_step rfl rfl ?_
        refine wp_iret rfl rfl rfl hq0
      · replace c2 := z_le_f (a := 0) (by omega) c2
        omega
    · exact absurd c0 g
theorem c1_ge_n {a : Nat} (ha : a < 2 ^ 31) : am_c1 .ge (nI a) = true := by
  cases h : am_c1 .ge (nI a) with
  | true => rfl
  | false => exact (z_ge_f ha h).elim
theorem se_key {S : am_S} {I : Nat → Int32} {li key : Int64} {K : jMK} {keys ty p0 p1 : Nat} {z2 z3 z4 : Int32} {x5 x6 x7 : Option Value} (hb : ∀ j, b j < 256) (hR : reQ b tot re) (h : lkS S I (lN ty) li b v tot re M E C K ci ck) (hw : mWk S I (lN ty) li b v p0 tot (4 * v + ci) M K) (hn : num9 (Bn b) tot p0 = some (key, p1)) (hk6 : keys ≤ 6) (hty : ty < 2 ^ 31)
    (hnone : (keys = 6 ∨ cst ck.2.2.2 ty key = none) → ∀ T J li' K', fr [408, 425, 426, 427] S T → gf [21, 22, 24, 29, 33, 35, 36, 57] I J → lkS T J (lN ty) li' b v tot re M E C K' ci ck → J 36 = 1 → Q (.inl none, T))
    (hsome : ∀ k T J li' K' x5 x6 x7, keys < 6 → cst ck.2.2.2 ty key = some k → fr [408, 425, 426, 427] S T → gf [21, 22, 24, 29, 33, 35, 36, 57] I J → lkS T J (lN ty) li' b v tot re M E C K' ci ck → J 36 = -1 → J 33 = nI k.2.2.1 → J 35 = nI 0 → k.2.2.1 ≤ 960 → wp X (d + 9) 133 7 [some (.ref 408), some (.int (nI (keys + 1))), some (.int z2), some (.int z3), some (.int z4), x5, x6, x7] [] T Q) : wp X (d + 9) 133 111 [some (.ref 408), some (.int (nI keys)), some (.int z2), some (.int z3), some (.int z4), x5, x6, x7] [] S Q := by
  refine wp_step rfl rfl ?_
  rw [show nI keys + Int32.ofInt 1 = nI (keys + 1) from nI_add keys 1]
  refine wp_step rfl rfl ?_
  refine wp_c0 rfl rfl (by decide) rfl (recv_ok h.1.1 rfl) rfl (q_wcomp hb hw hn (fun T J hf1 hg1 h1 => ?_))
  refine wp_step rfl rfl ?_
  show wp X (d + 9) 133 120 [some (.ref 408), some (.int (nI (keys + 1))), some (.int z2), some (.int z3), some (.int z4), some (.long key), none, x7] [] T Q
  have hl1 := lkS_of h hf1 (fun j hj => by simp only [List.mem_cons, List.not_mem_nil, or_false] at hj; omega) hg1 h1 (by decide) (by decide) (by decide) (by decide) (by decide)
  iterate 2 refine wp_step rfl rfl ?_
  refine wp_icmp rfl (fun c0 => ?_) (fun c0 => ?_)
  · replace c0 := n_le_t (a := keys + 1) (b := 6) (by omega) (by omega) c0
    iterate 2 refine wp_step rfl rfl ?_
    refine wp_getg rfl h1.1.1 (by decide) rfl ?_
    refine wp_step rfl rfl ?_
    refine wp_c0 rfl rfl (by decide) rfl (recv_ok h1.1.1 rfl) rfl (q_mconst hb hR hl1 h1 hty (fun T2 J2 li2 K2 hf2 hg2 hl2 hk960 => ?_))
    have hf02 : fr [408, 425, 426, 427] S T2 := fr_trans (fr_mono hf1 (fun j hj => by simp only [List.mem_cons, List.not_mem_nil, or_false] at hj ⊢; omega)) hf2
    have hg02 : gf [21, 22, 24, 29, 33, 35, 36, 57] I J2 := gf_trans (gf_mono hg1 (fun j hj => by simp only [List.mem_cons, List.not_mem_nil, or_false] at hj ⊢; omega)) (gf_mono hg2 (fun j hj => by simp only [List.mem_cons, List.not_mem_nil, or_false] at hj ⊢; omega))
    cases ec : cst ck.2.2.2 ty key with
    | none =>
      show wp X (d + 9) 133 140 [some (.ref 408), some (.int (nI (keys + 1))), some (.int z2), some (.int z3), some (.int z4), some (.long key), none, x7] [.int (Int32.ofInt (-1))] T2 Q
      iterate 3 refine wp_step rfl rfl ?_
      refine wp_if_f rfl rfl ?_
      iterate 2 refine wp_step rfl rfl ?_
      refine wp_putg rfl hl2.1.1 (by decide) rfl rfl ?_
      rw [mkG_i rfl]
      have h_Sx4 : am_get (am_upd T2 408 (moC (upd J2 36 (Int32.ofInt 1)) (lN ty) li2)) 408 = some (moC (upd J2 36 (Int32.ofInt 1)) (lN ty) li2) := am_get_self hl2.1.1
      have hf_Sx4 : fr [408] T2 (am_upd T2 408 (moC (upd J2 36 (Int32.ofInt 1)) (lN ty) li2)) := fr_up (by simp)
      generalize am_upd T2 408 (moC (upd J2 36 (Int32.ofInt 1)) (lN ty) li2) = Sx4 at h_Sx4 hf_Sx4 ⊢
      iterate 2 refine wp_step rfl rfl ?_
      refine wp_putg rfl h_Sx4 (by decide) rfl rfl ?_
      rw [mkG_i rfl]
      have h_Sx5 : am_get (am_upd Sx4 408 (moC (upd (upd J2 36 (Int32.ofInt 1)) 33 (Int32.ofInt (-1))) (lN ty) li2)) 408 = some (moC (upd (upd J2 36 (Int32.ofInt 1)) 33 (Int32.ofInt (-1))) (lN ty) li2) := am_get_self h_Sx4
      have hf_Sx5 : fr [408] T2 (am_upd Sx4 408 (moC (upd (upd J2 36 (Int32.ofInt 1)) 33 (Int32.ofInt (-1))) (lN ty) li2)) := fr_trans hf_Sx4 (fr_up (by simp))
      generalize am_upd Sx4 408 (moC (upd (upd J2 36 (Int32.ofInt 1)) 33 (Int32.ofInt (-1))) (lN ty) li2) = Sx5 at h_Sx5 hf_Sx5 ⊢
      clear h_Sx4 hf_Sx4
      iterate 2 refine wp_step rfl rfl ?_
      refine wp_putg rfl h_Sx5 (by decide) rfl rfl ?_
      rw [mkG_i rfl]
      have h_Sx6 : am_get (am_upd Sx5 408 (moC (upd (upd (upd J2 36 (Int32.ofInt 1)) 33 (Int32.ofInt (-1))) 35 (Int32.ofInt 0)) (lN ty) li2)) 408 = some (moC (upd (upd (upd J2 36 (Int32.ofInt 1)) 33 (Int32.ofInt (-1))) 35 (Int32.ofInt 0)) (lN ty) li2) := am_get_self h_Sx5
      have hf_Sx6 : fr [408] T2 (am_upd Sx5 408 (moC (upd (upd (upd J2 36 (Int32.ofInt 1)) 33 (Int32.ofInt (-1))) 35 (Int32.ofInt 0)) (lN ty) li2)) := fr_trans hf_Sx5 (fr_up (by simp))
      generalize am_upd Sx5 408 (moC (upd (upd (upd J2 36 (Int32.ofInt 1)) 33 (Int32.ofInt (-1))) 35 (Int32.ofInt 0)) (lN ty) li2) = Sx6 at h_Sx6 hf_Sx6 ⊢
      clear h_Sx5 hf_Sx5
      iterate 2 refine wp_step rfl rfl ?_
      have hg_J9 : gf [33, 35, 36] J2 (upd (upd (upd J2 36 (Int32.ofInt 1)) 33 (Int32.ofInt (-1))) 35 (Int32.ofInt 0)) := gf_up (gf_up (gf_up (gf_refl _ _) (by simp)) (by simp)) (by simp)
      have J9_33 : (upd (upd (upd J2 36 (Int32.ofInt 1)) 33 (Int32.ofInt (-1))) 35 (Int32.ofInt 0)) 33 = Int32.ofInt (-1) := (pk_un (by decide)).trans pk_us
      have J9_35 : (upd (upd (upd J2 36 (Int32.ofInt 1)) 33 (Int32.ofInt (-1))) 35 (Int32.ofInt 0)) 35 = nI 0 := pk_us
      have J9_36 : (upd (upd (upd J2 36 (Int32.ofInt 1)) 33 (Int32.ofInt (-1))) 35 (Int32.ofInt 0)) 36 = 1 := (pk_un (by decide)).trans ((pk_un (by decide)).trans pk_us)
      have a_J9 := h_Sx6
      have hf_J9 := hf_Sx6
      clear h_Sx6 hf_Sx6
      generalize upd (upd (upd J2 36 (Int32.ofInt 1)) 33 (Int32.ofInt (-1))) 35 (Int32.ofInt 0) = J9 at a_J9 hg_J9 J9_33 J9_35 J9_36
      have hl9 := lkS_1 (st' := lN ty) (li' := li2) hl2 hf_J9 a_J9 hg_J9 (by decide) (by decide) (by decide) (by decide) (by decide)
      refine wp_step rfl rfl ?_
      refine wp_getg (v := (.int 1)) rfl a_J9 (by decide) (congrArg Value.int J9_36) ?_
      refine wp_if_t rfl rfl ?_
      refine wp_vret rfl rfl (hnone (Or.inr ec) Sx6 J9 li2 K2 (fr_trans hf02 (fr_mono hf_J9 (fun j hj => by simp only [List.mem_cons, List.not_mem_nil, or_false] at hj ⊢; omega))) (gf_trans hg02 (gf_mono hg_J9 (fun j hj => by simp only [List.mem_cons, List.not_mem_nil, or_false] at hj ⊢; omega))) hl9 J9_36)
    | some k =>
      have hk9 := hk960 k ec
      show wp X (d + 9) 133 140 [some (.ref 408), some (.int (nI (keys + 1))), some (.int z2), some (.int z3), some (.int z4), some (.long key), none, x7] [.int (nI k.2.2.1)] T2 Q
      iterate 3 refine wp_step rfl rfl ?_
      refine wp_if_t rfl (c1_ge_n (by omega)) ?_
      refine wp_step rfl rfl ?_
      refine wp_putg rfl hl2.1.1 (by decide) rfl rfl ?_
      rw [mkG_i rfl]
      have h_Sx7 : am_get (am_upd T2 408 (moC (upd J2 36 (Int32.ofInt (-1))) (lN ty) li2)) 408 = some (moC (upd J2 36 (Int32.ofInt (-1))) (lN ty) li2) := am_get_self hl2.1.1
      have hf_Sx7 : fr [408] T2 (am_upd T2 408 (moC (upd J2 36 (Int32.ofInt (-1))) (lN ty) li2)) := fr_up (by simp)
      generalize am_upd T2 408 (moC (upd J2 36 (Int32.ofInt (-1))) (lN ty) li2) = Sx7 at h_Sx7 hf_Sx7 ⊢
      iterate 2 refine wp_step rfl rfl ?_
      refine wp_putg rfl h_Sx7 (by decide) rfl rfl ?_
      rw [mkG_i rfl]
      have h_Sx8 : am_get (am_upd Sx7 408 (moC (upd (upd J2 36 (Int32.ofInt (-1))) 33 (nI k.2.2.1)) (lN ty) li2)) 408 = some (moC (upd (upd J2 36 (Int32.ofInt (-1))) 33 (nI k.2.2.1)) (lN ty) li2) := am_get_self h_Sx7
      have hf_Sx8 : fr [408] T2 (am_upd Sx7 408 (moC (upd (upd J2 36 (Int32.ofInt (-1))) 33 (nI k.2.2.1)) (lN ty) li2)) := fr_trans hf_Sx7 (fr_up (by simp))
      generalize am_upd Sx7 408 (moC (upd (upd J2 36 (Int32.ofInt (-1))) 33 (nI k.2.2.1)) (lN ty) li2) = Sx8 at h_Sx8 hf_Sx8 ⊢
      clear h_Sx7 hf_Sx7
      iterate 2 refine wp_step rfl rfl ?_
      refine wp_putg rfl h_Sx8 (by decide) rfl rfl ?_
      rw [mkG_i rfl]
      have h_Sx9 : am_get (am_upd Sx8 408 (moC (upd (upd (upd J2 36 (Int32.ofInt (-1))) 33 (nI k.2.2.1)) 35 (Int32.ofInt 0)) (lN ty) li2)) 408 = some (moC (upd (upd (upd J2 36 (Int32.ofInt (-1))) 33 (nI k.2.2.1)) 35 (Int32.ofInt 0)) (lN ty) li2) := am_get_self h_Sx8
      have hf_Sx9 : fr [408] T2 (am_upd Sx8 408 (moC (upd (upd (upd J2 36 (Int32.ofInt (-1))) 33 (nI k.2.2.1)) 35 (Int32.ofInt 0)) (lN ty) li2)) := fr_trans hf_Sx8 (fr_up (by simp))
      generalize am_upd Sx8 408 (moC (upd (upd (upd J2 36 (Int32.ofInt (-1))) 33 (nI k.2.2.1)) 35 (Int32.ofInt 0)) (lN ty) li2) = Sx9 at h_Sx9 hf_Sx9 ⊢
      clear h_Sx8 hf_Sx8
      iterate 2 refine wp_step rfl rfl ?_
      have hg_J9 : gf [33, 35, 36] J2 (upd (upd (upd J2 36 (Int32.ofInt (-1))) 33 (nI k.2.2.1)) 35 (Int32.ofInt 0)) := gf_up (gf_up (gf_up (gf_refl _ _) (by simp)) (by simp)) (by simp)
      have J9_33 : (upd (upd (upd J2 36 (Int32.ofInt (-1))) 33 (nI k.2.2.1)) 35 (Int32.ofInt 0)) 33 = nI k.2.2.1 := (pk_un (by decide)).trans pk_us
      have J9_35 : (upd (upd (upd J2 36 (Int32.ofInt (-1))) 33 (nI k.2.2.1)) 35 (Int32.ofInt 0)) 35 = nI 0 := pk_us
      have J9_36 : (upd (upd (upd J2 36 (Int32.ofInt (-1))) 33 (nI k.2.2.1)) 35 (Int32.ofInt 0)) 36 = -1 := (pk_un (by decide)).trans ((pk_un (by decide)).trans pk_us)
      have a_J9 := h_Sx9
      have hf_J9 := hf_Sx9
      clear h_Sx9 hf_Sx9
      generalize upd (upd (upd J2 36 (Int32.ofInt (-1))) 33 (nI k.2.2.1)) 35 (Int32.ofInt 0) = J9 at a_J9 hg_J9 J9_33 J9_35 J9_36
      have hl9 := lkS_1 (st' := lN ty) (li' := li2) hl2 hf_J9 a_J9 hg_J9 (by decide) (by decide) (by decide) (by decide) (by decide)
      exact hsome k Sx9 J9 li2 K2 _ _ _ (by omega) ec (fr_trans hf02 (fr_mono hf_J9 (fun j hj => by simp only [List.mem_cons, List.not_mem_nil, or_false] at hj ⊢; omega))) (gf_trans hg02 (gf_mono hg_J9 (fun j hj => by simp only [List.mem_cons, List.not_mem_nil, or_false] at hj ⊢; omega))) hl9 J9_36 J9_33 J9_35 hk9
  · replace c0 := n_le_f (a := keys + 1) (b := 6) (by omega) (by omega) c0
    iterate 5 refine wp_step rfl rfl ?_
    refine wp_if_f rfl rfl ?_
    iterate 2 refine wp_step rfl rfl ?_
    refine wp_putg rfl h1.1.1 (by decide) rfl rfl ?_
    rw [mkG_i rfl]
    have h_Sx1 : am_get (am_upd T 408 (moC (upd J 36 (Int32.ofInt 1)) (lN ty) li)) 408 = some (moC (upd J 36 (Int32.ofInt 1)) (lN ty) li) := am_get_self h1.1.1
    have hf_Sx1 : fr [408] T (am_upd T 408 (moC (upd J 36 (Int32.ofInt 1)) (lN ty) li)) := fr_up (by simp)
    generalize am_upd T 408 (moC (upd J 36 (Int32.ofInt 1)) (lN ty) li) = Sx1 at h_Sx1 hf_Sx1 ⊢
    iterate 2 refine wp_step rfl rfl ?_
    refine wp_putg rfl h_Sx1 (by decide) rfl rfl ?_
    rw [mkG_i rfl]
    have h_Sx2 : am_get (am_upd Sx1 408 (moC (upd (upd J 36 (Int32.ofInt 1)) 33 (Int32.ofInt (-1))) (lN ty) li)) 408 = some (moC (upd (upd J 36 (Int32.ofInt 1)) 33 (Int32.ofInt (-1))) (lN ty) li) := am_get_self h_Sx1
    have hf_Sx2 : fr [408] T (am_upd Sx1 408 (moC (upd (upd J 36 (Int32.ofInt 1)) 33 (Int32.ofInt (-1))) (lN ty) li)) := fr_trans hf_Sx1 (fr_up (by simp))
    generalize am_upd Sx1 408 (moC (upd (upd J 36 (Int32.ofInt 1)) 33 (Int32.ofInt (-1))) (lN ty) li) = Sx2 at h_Sx2 hf_Sx2 ⊢
    clear h_Sx1 hf_Sx1
    iterate 2 refine wp_step rfl rfl ?_
    refine wp_putg rfl h_Sx2 (by decide) rfl rfl ?_
    rw [mkG_i rfl]
    have h_Sx3 : am_get (am_upd Sx2 408 (moC (upd (upd (upd J 36 (Int32.ofInt 1)) 33 (Int32.ofInt (-1))) 35 (Int32.ofInt 0)) (lN ty) li)) 408 = some (moC (upd (upd (upd J 36 (Int32.ofInt 1)) 33 (Int32.ofInt (-1))) 35 (Int32.ofInt 0)) (lN ty) li) := am_get_self h_Sx2
    have hf_Sx3 : fr [408] T (am_upd Sx2 408 (moC (upd (upd (upd J 36 (Int32.ofInt 1)) 33 (Int32.ofInt (-1))) 35 (Int32.ofInt 0)) (lN ty) li)) := fr_trans hf_Sx2 (fr_up (by simp))
    generalize am_upd Sx2 408 (moC (upd (upd (upd J 36 (Int32.ofInt 1)) 33 (Int32.ofInt (-1))) 35 (Int32.ofInt 0)) (lN ty) li) = Sx3 at h_Sx3 hf_Sx3 ⊢
    clear h_Sx2 hf_Sx2
    iterate 2 refine wp_step rfl rfl ?_
    have hg_J9 : gf [33, 35, 36] J (upd (upd (upd J 36 (Int32.ofInt 1)) 33 (Int32.ofInt (-1))) 35 (Int32.ofInt 0)) := gf_up (gf_up (gf_up (gf_refl _ _) (by simp)) (by simp)) (by simp)
    have J9_33 : (upd (upd (upd J 36 (Int32.ofInt 1)) 33 (Int32.ofInt (-1))) 35 (Int32.ofInt 0)) 33 = Int32.ofInt (-1) := (pk_un (by decide)).trans pk_us
    have J9_35 : (upd (upd (upd J 36 (Int32.ofInt 1)) 33 (Int32.ofInt (-1))) 35 (Int32.ofInt 0)) 35 = nI 0 := pk_us
    have J9_36 : (upd (upd (upd J 36 (Int32.ofInt 1)) 33 (Int32.ofInt (-1))) 35 (Int32.ofInt 0)) 36 = 1 := (pk_un (by decide)).trans ((pk_un (by decide)).trans pk_us)
    have a_J9 := h_Sx3
    have hf_J9 := hf_Sx3
    clear h_Sx3 hf_Sx3
    generalize upd (upd (upd J 36 (Int32.ofInt 1)) 33 (Int32.ofInt (-1))) 35 (Int32.ofInt 0) = J9 at a_J9 hg_J9 J9_33 J9_35 J9_36
    have hl9 := lkS_1 (st' := lN ty) (li' := li) hl1 hf_J9 a_J9 hg_J9 (by decide) (by decide) (by decide) (by decide) (by decide)
    refine wp_step rfl rfl ?_
    refine wp_getg (v := (.int 1)) rfl a_J9 (by decide) (congrArg Value.int J9_36) ?_
    refine wp_if_t rfl rfl ?_
    refine wp_vret rfl rfl (hnone (Or.inl (by omega)) Sx3 J9 li K (fr_trans (fr_mono hf1 (fun j hj => by simp only [List.mem_cons, List.not_mem_nil, or_false] at hj ⊢; omega)) (fr_mono hf_J9 (fun j hj => by simp only [List.mem_cons, List.not_mem_nil, or_false] at hj ⊢; omega))) (gf_trans (gf_mono hg1 (fun j hj => by simp only [List.mem_cons, List.not_mem_nil, or_false] at hj ⊢; omega)) (gf_mono hg_J9 (fun j hj => by simp only [List.mem_cons, List.not_mem_nil, or_false] at hj ⊢; omega))) hl9 J9_36)
set_option maxHeartbeats 2000000 in
theorem se_step (hb : ∀ j, b j < 256) (hR : reQ b tot re) (f : Nat) (ih : ∀ g : Nat, g < f → ∀ (keys : Nat) (w : jV) (S : am_S) (I : Nat → Int32) (li : Int64) (K : jMK) (x2 x3 x4 x5 x6 x7 : Option Value), keys + g = 6 → lkS S I (lN w.1) li b v tot re M E C K ci ck → I 36 = -1 → vgd ck.2.2.1 b tot w → I 33 = nI w.2.2 → I 35 = nI w.2.1 → (∀ T J st' li' K', fr [408, 425, 426, 427] S T → gf [21, 22, 24, 29, 33, 35, 36, 57] I J → lkS T J st' li' b v tot re M E C K' ci ck → spO ck.2.2.1 b tot J st' (stl b tot ck.2.2.2 g w) → Q (.inl none, T)) → wp X (d + 9) 133 7 [some (.ref 408), some (.int (nI keys)), x2, x3, x4, x5, x6, x7] [] S Q) : ∀ (keys : Nat) (w : jV) (S : am_S) (I : Nat → Int32) (li : Int64) (K : jMK) (x2 x3 x4 x5 x6 x7 : Option Value), keys + f = 6 → lkS S I (lN w.1) li b v tot re M E C K ci ck → I 36 = -1 → vgd ck.2.2.1 b tot w → I 33 = nI w.2.2 → I 35 = nI w.2.1 → (∀ T J st' li' K', fr [408, 425, 426, 427] S T → gf [21, 22, 24, 29, 33, 35, 36, 57] I J → lkS T J st' li' b v tot re M E C K' ci ck → spO ck.2.2.1 b tot J st' (stl b tot ck.2.2.2 f w) → Q (.inl none, T)) → wp X (d + 9) 133 7 [some (.ref 408), some (.int (nI keys)), x2, x3, x4, x5, x6, x7] [] S Q := by
  intro keys w S I li K x2 x3 x4 x5 x6 x7 hkf h h36 hg h33 h35 hq
  refine wp_step rfl rfl ?_
  refine wp_getg (v := (.int (-1))) rfl h.1.1 (by decide) (congrArg Value.int h36) ?_
  refine wp_if_f rfl rfl ?_
  obtain ⟨hci, hv, htot, hT, hmck, hC⟩ := lkS_sl h
  obtain ⟨hrd, hfl3, hty, hp960, hkn⟩ := id hg
  obtain ⟨ty, fl, p⟩ := w
  dsimp only at hrd hfl3 hty hp960 hkn h33 h35 h
  have hmz := h.1.2.2.2.2.1
  iterate 2 refine wp_step rfl rfl ?_
  refine wp_getg (v := (.int (nI p))) rfl h.1.1 (by decide) (congrArg Value.int h33) ?_
  refine wp_putg rfl h.1.1 (by decide) rfl rfl ?_
  rw [mkG_i rfl]
  have h_Sx10 : am_get (am_upd S 408 (moC (upd I 21 (nI p)) (lN ty) li)) 408 = some (moC (upd I 21 (nI p)) (lN ty) li) := am_get_self h.1.1
  have hf_Sx10 : fr [408] S (am_upd S 408 (moC (upd I 21 (nI p)) (lN ty) li)) := fr_up (by simp)
  generalize am_upd S 408 (moC (upd I 21 (nI p)) (lN ty) li) = Sx10 at h_Sx10 hf_Sx10 ⊢
  obtain ⟨sz, hz1, hz2⟩ := mSz_fr hmz hf_Sx10 (by decide)
  iterate 2 refine wp_step rfl rfl ?_
  refine wp_getg rfl h_Sx10 (by decide) rfl ?_
  refine wp_step rfl rfl ?_
  refine wp_getg (v := (.int (nI v))) rfl h_Sx10 (by decide) (congrArg Value.int ((pk_un (by decide)).trans (h.2.1))) ?_
  refine wp_ald rfl (Or.inl ⟨rfl, rfl⟩) (by decide) hz1 (am_in_nI (by omega) (by decide)) ?_
  rw [nI_clamp (by omega)]
  rw [hz2]
  refine wp_putg rfl h_Sx10 (by decide) rfl rfl ?_
  rw [mkG_i rfl]
  have h_Sx11 : am_get (am_upd Sx10 408 (moC (upd (upd I 21 (nI p)) 22 (nI tot)) (lN ty) li)) 408 = some (moC (upd (upd I 21 (nI p)) 22 (nI tot)) (lN ty) li) := am_get_self h_Sx10
  have hf_Sx11 : fr [408] S (am_upd Sx10 408 (moC (upd (upd I 21 (nI p)) 22 (nI tot)) (lN ty) li)) := fr_trans hf_Sx10 (fr_up (by simp))
  generalize am_upd Sx10 408 (moC (upd (upd I 21 (nI p)) 22 (nI tot)) (lN ty) li) = Sx11 at h_Sx11 hf_Sx11 ⊢
  clear h_Sx10 hf_Sx10
  have hg_I1 : gf [21, 22] I (upd (upd I 21 (nI p)) 22 (nI tot)) := gf_up (gf_up (gf_refl _ _) (by simp)) (by simp)
  have I1_21 : (upd (upd I 21 (nI p)) 22 (nI tot)) 21 = nI p := (pk_un (by decide)).trans pk_us
  have I1_22 : (upd (upd I 21 (nI p)) 22 (nI tot)) 22 = nI tot := pk_us
  have a_I1 := h_Sx11
  have hf_I1 := hf_Sx11
  clear h_Sx11 hf_Sx11
  generalize upd (upd I 21 (nI p)) 22 (nI tot) = I1 at a_I1 hg_I1 I1_21 I1_22
  have hl_I1 := lkS_1 (st' := (lN ty)) (li' := li) h hf_I1 a_I1 hg_I1 (by decide) (by decide) (by decide) (by decide) (by decide)
  have hw_I1 := lkS_wk hl_I1 I1_21 I1_22 hp960 htot
  have k35 : I1 35 = nI fl := (hg_I1 35 (by decide)).trans h35
  have k33 : I1 33 = nI p := (hg_I1 33 (by decide)).trans h33
  have hf1 : fr [408, 425, 426, 427] S Sx11 := fr_mono hf_I1 (fun j hj => by simp only [List.mem_cons, List.not_mem_nil, or_false] at hj ⊢; omega)
  have hg1 : gf [21, 22, 24, 29, 33, 35, 36, 57] I I1 := gf_mono hg_I1 (fun j hj => by simp only [List.mem_cons, List.not_mem_nil, or_false] at hj ⊢; omega)
  have hfl : fl = 0 ∨ fl = 1 ∨ fl = 2 ∨ fl = 3 := by omega
  have key : ∀ (key : Int64) (p0 p1 : Nat) (T : am_S) (J : Nat → Int32) (z2 z3 z4 : Int32) (x5 x6 x7 : Option Value), kyOf b tot (ty, fl, p) = some key → num9 (Bn b) tot p0 = some (key, p1) → fr [408, 425, 426, 427] S T → gf [21, 22, 24, 29, 33, 35, 36, 57] I J → lkS T J (lN ty) li b v tot re M E C K ci ck → mWk T J (lN ty) li b v p0 tot (4 * v + ci) M K → wp X (d + 9) 133 111 [some (.ref 408), some (.int (nI keys)), some (.int z2), some (.int z3), some (.int z4), x5, x6, x7] [] T Q := by
    intro key p0 p1 T J z2 z3 z4 x5 x6 x7 eky en hf2 hg2 hl2 hw2
    refine se_key hb hR hl2 hw2 en (by omega) hty (fun hno T2 J2 li2 K2 hf3 hg3 hl3 h363 => ?_) (fun k T2 J2 li2 K2 y5 y6 y7 hlt ec hf3 hg3 hl3 h363 h333 h353 hk960 => ?_)
    · refine hq T2 J2 _ li2 K2 (fr_trans hf2 hf3) (gf_trans hg2 hg3) hl3 ?_
      have e9 : stl b tot ck.2.2.2 f (ty, fl, p) = none := by
        cases f with
        | zero => unfold stl; rw [eky]
        | succ f =>
          unfold stl
          rw [eky]
          dsimp only
          rcases hno with h9 | h9
          · omega
          · rw [h9]
      rw [e9]
      exact h363
    · obtain ⟨f, rfl⟩ : ∃ g, f = g + 1 := ⟨f - 1, by omega⟩
      obtain ⟨hm, he⟩ := cst_mem ec
      obtain ⟨g1, g2⟩ := (hR ci ck h.2.2.2).2 k hm
      have hs : stl b tot ck.2.2.2 (f + 1) (ty, fl, p) = stl b tot ck.2.2.2 f (k.1, 0, k.2.2.1) := by
        conv => lhs; unfold stl
        rw [eky]
        dsimp only
        rw [ec]
      refine ih f (by omega) (keys + 1) (k.1, 0, k.2.2.1) T2 J2 li2 K2 _ _ _ _ _ _ (by omega) (by rw [he]; exact hl3) h363 ⟨g1, by show 0 ≤ 3; decide, okK_lt hmck.1 g2, hk960, Or.inl (okK_knM hmck.1 (okK_lt hmck.1 g2) g2)⟩ h333 h353 (fun T3 J3 st3 li3 K3 hf4 hg4 hl4 hs4 => hq T3 J3 st3 li3 K3 (fr_trans hf2 (fr_trans hf3 hf4)) (gf_trans hg2 (gf_trans hg3 hg4)) hl4 (by rw [hs]; exact hs4))
  have hend : ∀ (J : Nat → Int32) (n : Nat), kyOf b tot (ty, fl, p) = none → kdOf b (ty, fl, p) = n → n ≠ 13 → J 36 = nI n → J 33 = nI p → J 35 = nI fl → spO ck.2.2.1 b tot J (lN ty) (stl b tot ck.2.2.2 f (ty, fl, p)) := by
    intro J n e1 e2 e3 e4 e5 e6
    have e9 : stl b tot ck.2.2.2 f (ty, fl, p) = some (ty, fl, p) := by
      cases f <;> (unfold stl; rw [e1])
    rw [e9]
    exact ⟨by rw [e2]; exact e4, by rw [e2]; exact e3, e5, e6, rfl, hg⟩
  rcases hfl with rfl | rfl | rfl | rfl
  · refine wp_step rfl rfl ?_
    refine wp_getg (v := (.int (nI 0))) rfl a_I1 (by decide) (congrArg Value.int k35) ?_
    iterate 2 refine wp_step rfl rfl ?_
    refine wp_if_f rfl rfl ?_
    refine wp_step rfl rfl ?_
    refine wp_getg (v := (.int (nI 0))) rfl a_I1 (by decide) (congrArg Value.int k35) ?_
    iterate 2 refine wp_step rfl rfl ?_
    refine wp_if_t rfl rfl ?_
    iterate 3 refine wp_step rfl rfl ?_
    refine wp_getg (v := (.int (nI 0))) rfl a_I1 (by decide) (congrArg Value.int k35) ?_
    refine wp_if_f rfl rfl ?_
    refine wp_step rfl rfl ?_
    refine wp_getg rfl a_I1 (by decide) rfl ?_
    iterate 2 refine wp_step rfl rfl ?_
    refine wp_if rfl (fun c0 => ?_) (fun c0 => ?_)
    · replace c0 := l_ne_t c0
      have hne : ty ≠ 10 := fun h9 => c0 (by rw [h9]; rfl)
      have ky0 : kyOf b tot (ty, 0, p) = none := by
        unfold kyOf
        rw [if_neg (show ¬ (0 : Nat) = 1 by decide), if_neg (fun h9 => hne h9.2.1)]
      iterate 3 refine wp_step rfl rfl ?_
      refine wp_if_t rfl rfl ?_
      iterate 3 refine wp_step rfl rfl ?_
      refine wp_if_f rfl rfl ?_
      refine wp_step rfl rfl ?_
      refine wp_if_t rfl rfl ?_
      refine wp_step rfl rfl ?_
      refine wp_getg (v := (.int (nI 0))) rfl a_I1 (by decide) (congrArg Value.int k35) ?_
      iterate 2 refine wp_step rfl rfl ?_
      refine wp_if_t rfl rfl ?_
      refine wp_step rfl rfl ?_
      refine wp_if_t rfl rfl ?_
      iterate 2 refine wp_step rfl rfl ?_
      refine wp_getg rfl a_I1 (by decide) rfl ?_
      iterate 2 refine wp_step rfl rfl ?_
      refine wp_if rfl (fun c1 => ?_) (fun c1 => ?_)
      · replace c1 := l_le_t c1
        have h10 : ty < 10 := by
          have c2 := (lN_le (a := ty) (b := 10) (by omega) (by decide)).mp (show lN ty ≤ lN 10 from c1)
          omega
        refine wp_step rfl rfl ?_
        refine wp_getg rfl a_I1 (by decide) rfl ?_
        refine wp_step rfl rfl ?_
        rw [lN_i]
        refine wp_putg rfl hl_I1.1.1 (by decide) rfl rfl ?_
        rw [mkG_i rfl]
        have h_Sx14 : am_get (am_upd Sx11 408 (moC (upd I1 36 (nI ty)) (lN ty) li)) 408 = some (moC (upd I1 36 (nI ty)) (lN ty) li) := am_get_self hl_I1.1.1
        have hf_Sx14 : fr [408] Sx11 (am_upd Sx11 408 (moC (upd I1 36 (nI ty)) (lN ty) li)) := fr_up (by simp)
        generalize am_upd Sx11 408 (moC (upd I1 36 (nI ty)) (lN ty) li) = Sx14 at h_Sx14 hf_Sx14 ⊢
        refine wp_step rfl rfl ?_
        have hg_J8 : gf [36] I1 (upd I1 36 (nI ty)) := gf_up (gf_refl _ _) (by simp)
        have J8_36 : (upd I1 36 (nI ty)) 36 = nI ty := pk_us
        have a_J8 := h_Sx14
        have hf_J8 := hf_Sx14
        clear h_Sx14 hf_Sx14
        generalize upd I1 36 (nI ty) = J8 at a_J8 hg_J8 J8_36
        have hl8 := lkS_1 (st' := lN ty) (li' := li) hl_I1 hf_J8 a_J8 hg_J8 (by decide) (by decide) (by decide) (by decide) (by decide)
        refine wp_step rfl rfl ?_
        refine wp_getg (v := (.int (nI ty))) rfl a_J8 (by decide) (congrArg Value.int J8_36) ?_
        refine wp_if_t rfl (c1_ge_n hty) ?_
        refine wp_vret rfl rfl (hq Sx14 J8 _ li K (fr_trans hf1 (fr_mono hf_J8 (fun j hj => by simp only [List.mem_cons, List.not_mem_nil, or_false] at hj ⊢; omega))) (gf_trans hg1 (gf_mono hg_J8 (fun j hj => by simp only [List.mem_cons, List.not_mem_nil, or_false] at hj ⊢; omega))) hl8 (hend J8 ty ky0 (by unfold kdOf; rw [if_neg (show ¬ 2 ≤ 0 by decide), if_neg (show ¬ (0 : Nat) = 1 by decide), if_neg hne, if_pos h10]) (by omega) J8_36 ((hg_J8 33 (by decide)).trans k33) ((hg_J8 35 (by decide)).trans k35)))
      · replace c1 := l_le_f c1
        have h10 : ¬ ty < 10 := fun h9 => c1 (show lN ty ≤ lN 10 from (lN_le (a := ty) (b := 10) (by omega) (by decide)).mpr (by omega))
        iterate 2 refine wp_step rfl rfl ?_
        refine wp_putg rfl hl_I1.1.1 (by decide) rfl rfl ?_
        rw [mkG_i rfl]
        have h_Sx15 : am_get (am_upd Sx11 408 (moC (upd I1 36 ((Int8.ofInt 11).toInt32)) (lN ty) li)) 408 = some (moC (upd I1 36 ((Int8.ofInt 11).toInt32)) (lN ty) li) := am_get_self hl_I1.1.1
        have hf_Sx15 : fr [408] Sx11 (am_upd Sx11 408 (moC (upd I1 36 ((Int8.ofInt 11).toInt32)) (lN ty) li)) := fr_up (by simp)
        generalize am_upd Sx11 408 (moC (upd I1 36 ((Int8.ofInt 11).toInt32)) (lN ty) li) = Sx15 at h_Sx15 hf_Sx15 ⊢
        refine wp_step rfl rfl ?_
        have hg_J8 : gf [36] I1 (upd I1 36 ((Int8.ofInt 11).toInt32)) := gf_up (gf_refl _ _) (by simp)
        have J8_36 : (upd I1 36 ((Int8.ofInt 11).toInt32)) 36 = nI 11 := pk_us
        have a_J8 := h_Sx15
        have hf_J8 := hf_Sx15
        clear h_Sx15 hf_Sx15
        generalize upd I1 36 ((Int8.ofInt 11).toInt32) = J8 at a_J8 hg_J8 J8_36
        have hl8 := lkS_1 (st' := lN ty) (li' := li) hl_I1 hf_J8 a_J8 hg_J8 (by decide) (by decide) (by decide) (by decide) (by decide)
        refine wp_step rfl rfl ?_
        refine wp_getg (v := (.int (nI 11))) rfl a_J8 (by decide) (congrArg Value.int J8_36) ?_
        refine wp_if_t rfl rfl ?_
        refine wp_vret rfl rfl (hq Sx15 J8 _ li K (fr_trans hf1 (fr_mono hf_J8 (fun j hj => by simp only [List.mem_cons, List.not_mem_nil, or_false] at hj ⊢; omega))) (gf_trans hg1 (gf_mono hg_J8 (fun j hj => by simp only [List.mem_cons, List.not_mem_nil, or_false] at hj ⊢; omega))) hl8 (hend J8 11 ky0 (by unfold kdOf; rw [if_neg (show ¬ 2 ≤ 0 by decide), if_neg (show ¬ (0 : Nat) = 1 by decide), if_neg hne, if_neg h10]) (by decide) J8_36 ((hg_J8 33 (by decide)).trans k33) ((hg_J8 35 (by decide)).trans k35)))
    · replace c0 := l_ne_f c0
      have h10 : ty = 10 := (lN_eq (a := ty) (b := 10) (by omega) (by decide)).mp (show lN ty = lN 10 from c0)
      subst h10
      obtain ⟨tv, px, ex⟩ := rdb_text hrd
      have hlt := rdX_lt ex
      iterate 4 refine wp_step rfl rfl ?_
      refine wp_if_f rfl rfl ?_
      refine wp_step rfl rfl ?_
      refine wp_c0 rfl rfl (by decide) rfl (recv_ok a_I1 rfl) rfl (q_wnext hb hw_I1 hlt (fun T J hf2 hg2 h2 => ?_))
      have hl2 := lkS_of hl_I1 hf2 (fun j hj => by simp only [List.mem_cons, List.not_mem_nil, or_false] at hj; omega) hg2 h2 (by decide) (by decide) (by decide) (by decide) (by decide)
      have hf02 : fr [408, 425, 426, 427] S T := fr_trans hf1 (fr_mono hf2 (fun j hj => by simp only [List.mem_cons, List.not_mem_nil, or_false] at hj ⊢; omega))
      have hg02 : gf [21, 22, 24, 29, 33, 35, 36, 57] I J := gf_trans hg1 (gf_mono hg2 (fun j hj => by simp only [List.mem_cons, List.not_mem_nil, or_false] at hj ⊢; omega))
      have j33 := (hg2 33 (by decide)).trans k33
      have j35 := (hg2 35 (by decide)).trans k35
      have hbp := hb p
      iterate 3 refine wp_step rfl rfl ?_
      refine wp_if_f rfl rfl ?_
      refine wp_step rfl rfl ?_
      refine wp_if_f rfl rfl ?_
      iterate 2 refine wp_step rfl rfl ?_
      refine wp_icmp rfl (fun c1 => ?_) (fun c1 => ?_)
      · replace c1 := n_ne_t (a := b p) (b := 2) (by omega) (by omega) c1
        have ky0 : kyOf b tot (10, 0, p) = none := by
          unfold kyOf
          rw [if_neg (show ¬ (0 : Nat) = 1 by decide), if_neg (fun h9 => c1 h9.2.2)]
        refine wp_step rfl rfl ?_
        refine wp_getg (v := (.int (nI 0))) rfl h2.1.1 (by decide) (congrArg Value.int j35) ?_
        iterate 2 refine wp_step rfl rfl ?_
        refine wp_if_t rfl rfl ?_
        refine wp_step rfl rfl ?_
        refine wp_if_f rfl rfl ?_
        iterate 2 refine wp_step rfl rfl ?_
        refine wp_if rfl (fun c2 => ?_) (fun c2 => ?_)
        · replace c2 := z_ne_t (a := b p) (by omega) c2
          refine wp_step rfl rfl ?_
          refine wp_putg rfl hl2.1.1 (by decide) rfl rfl ?_
          rw [mkG_i rfl]
          have h_Sx16 : am_get (am_upd T 408 (moC (upd J 36 ((Int8.ofInt 10).toInt32)) (lN 10) li)) 408 = some (moC (upd J 36 ((Int8.ofInt 10).toInt32)) (lN 10) li) := am_get_self hl2.1.1
          have hf_Sx16 : fr [408] T (am_upd T 408 (moC (upd J 36 ((Int8.ofInt 10).toInt32)) (lN 10) li)) := fr_up (by simp)
          generalize am_upd T 408 (moC (upd J 36 ((Int8.ofInt 10).toInt32)) (lN 10) li) = Sx16 at h_Sx16 hf_Sx16 ⊢
          iterate 2 refine wp_step rfl rfl ?_
          have hg_J8 : gf [36] J (upd J 36 ((Int8.ofInt 10).toInt32)) := gf_up (gf_refl _ _) (by simp)
          have J8_36 : (upd J 36 ((Int8.ofInt 10).toInt32)) 36 = nI 10 := pk_us
          have a_J8 := h_Sx16
          have hf_J8 := hf_Sx16
          clear h_Sx16 hf_Sx16
          generalize upd J 36 ((Int8.ofInt 10).toInt32) = J8 at a_J8 hg_J8 J8_36
          have hl8 := lkS_1 (st' := lN 10) (li' := li) hl2 hf_J8 a_J8 hg_J8 (by decide) (by decide) (by decide) (by decide) (by decide)
          refine wp_step rfl rfl ?_
          refine wp_getg (v := (.int (nI 10))) rfl a_J8 (by decide) (congrArg Value.int J8_36) ?_
          refine wp_if_t rfl rfl ?_
          refine wp_vret rfl rfl (hq Sx16 J8 _ li K (fr_trans hf02 (fr_mono hf_J8 (fun j hj => by simp only [List.mem_cons, List.not_mem_nil, or_false] at hj ⊢; omega))) (gf_trans hg02 (gf_mono hg_J8 (fun j hj => by simp only [List.mem_cons, List.not_mem_nil, or_false] at hj ⊢; omega))) hl8 (hend J8 10 ky0 (by unfold kdOf; rw [if_neg (show ¬ 2 ≤ 0 by decide), if_neg (show ¬ (0 : Nat) = 1 by decide), if_pos rfl, if_neg c2, if_neg c1]) (by decide) J8_36 ((hg_J8 33 (by decide)).trans j33) ((hg_J8 35 (by decide)).trans j35)))
        · replace c2 := z_ne_f (a := b p) (by omega) c2
          iterate 2 refine wp_step rfl rfl ?_
          refine wp_putg rfl hl2.1.1 (by decide) rfl rfl ?_
          rw [mkG_i rfl]
          have h_Sx17 : am_get (am_upd T 408 (moC (upd J 36 (Int32.ofInt 1)) (lN 10) li)) 408 = some (moC (upd J 36 (Int32.ofInt 1)) (lN 10) li) := am_get_self hl2.1.1
          have hf_Sx17 : fr [408] T (am_upd T 408 (moC (upd J 36 (Int32.ofInt 1)) (lN 10) li)) := fr_up (by simp)
          generalize am_upd T 408 (moC (upd J 36 (Int32.ofInt 1)) (lN 10) li) = Sx17 at h_Sx17 hf_Sx17 ⊢
          iterate 2 refine wp_step rfl rfl ?_
          have hg_J8 : gf [36] J (upd J 36 (Int32.ofInt 1)) := gf_up (gf_refl _ _) (by simp)
          have J8_36 : (upd J 36 (Int32.ofInt 1)) 36 = nI 1 := pk_us
          have a_J8 := h_Sx17
          have hf_J8 := hf_Sx17
          clear h_Sx17 hf_Sx17
          generalize upd J 36 (Int32.ofInt 1) = J8 at a_J8 hg_J8 J8_36
          have hl8 := lkS_1 (st' := lN 10) (li' := li) hl2 hf_J8 a_J8 hg_J8 (by decide) (by decide) (by decide) (by decide) (by decide)
          refine wp_step rfl rfl ?_
          refine wp_getg (v := (.int (nI 1))) rfl a_J8 (by decide) (congrArg Value.int J8_36) ?_
          refine wp_if_t rfl rfl ?_
          refine wp_vret rfl rfl (hq Sx17 J8 _ li K (fr_trans hf02 (fr_mono hf_J8 (fun j hj => by simp only [List.mem_cons, List.not_mem_nil, or_false] at hj ⊢; omega))) (gf_trans hg02 (gf_mono hg_J8 (fun j hj => by simp only [List.mem_cons, List.not_mem_nil, or_false] at hj ⊢; omega))) hl8 (hend J8 1 ky0 (by unfold kdOf; rw [if_neg (show ¬ 2 ≤ 0 by decide), if_neg (show ¬ (0 : Nat) = 1 by decide), if_pos rfl, if_pos c2]) (by decide) J8_36 ((hg_J8 33 (by decide)).trans j33) ((hg_J8 35 (by decide)).trans j35)))
      · replace c1 := n_ne_f (a := b p) (b := 2) (by omega) (by omega) c1
        rcases rdX_kd ex with ⟨g1, _⟩ | ⟨g1, kx, _, g3⟩ | ⟨g1, g2, _⟩
        · omega
        · exact key kx (p + 1) px _ _ _ _ _ _ _ _ (by unfold kyOf; rw [if_neg (show ¬ (0 : Nat) = 1 by decide), if_pos ⟨rfl, rfl, g1⟩, g3]; rfl) g3 hf02 hg02 hl2 h2
        · exact absurd c1 g2
  · refine wp_step rfl rfl ?_
    refine wp_getg (v := (.int (nI 1))) rfl a_I1 (by decide) (congrArg Value.int k35) ?_
    iterate 2 refine wp_step rfl rfl ?_
    refine wp_if_f rfl rfl ?_
    refine wp_step rfl rfl ?_
    refine wp_getg (v := (.int (nI 1))) rfl a_I1 (by decide) (congrArg Value.int k35) ?_
    iterate 2 refine wp_step rfl rfl ?_
    refine wp_if_f rfl rfl ?_
    iterate 4 refine wp_step rfl rfl ?_
    refine wp_getg (v := (.int (nI 1))) rfl a_I1 (by decide) (congrArg Value.int k35) ?_
    refine wp_if_t rfl rfl ?_
    iterate 3 refine wp_step rfl rfl ?_
    refine wp_if_t rfl rfl ?_
    iterate 3 refine wp_step rfl rfl ?_
    refine wp_if_t rfl rfl ?_
    obtain ⟨kx, p1, en⟩ := rdb_key hrd
    exact key kx p p1 _ _ _ _ _ _ _ _ (by unfold kyOf; rw [if_pos rfl, en]; rfl) en hf1 hg1 hl_I1 hw_I1
  · refine wp_step rfl rfl ?_
    refine wp_getg (v := (.int (nI 2))) rfl a_I1 (by decide) (congrArg Value.int k35) ?_
    iterate 2 refine wp_step rfl rfl ?_
    refine wp_if_t rfl rfl ?_
    iterate 3 refine wp_step rfl rfl ?_
    refine wp_getg (v := (.int (nI 2))) rfl a_I1 (by decide) (congrArg Value.int k35) ?_
    refine wp_if_t rfl rfl ?_
    iterate 3 refine wp_step rfl rfl ?_
    refine wp_if_t rfl rfl ?_
    iterate 3 refine wp_step rfl rfl ?_
    refine wp_if_f rfl rfl ?_
    refine wp_step rfl rfl ?_
    refine wp_if_t rfl rfl ?_
    refine wp_step rfl rfl ?_
    refine wp_getg (v := (.int (nI 2))) rfl a_I1 (by decide) (congrArg Value.int k35) ?_
    iterate 2 refine wp_step rfl rfl ?_
    refine wp_if_f rfl rfl ?_
    iterate 2 refine wp_step rfl rfl ?_
    refine wp_putg rfl hl_I1.1.1 (by decide) rfl rfl ?_
    rw [mkG_i rfl]
    have h_Sx12 : am_get (am_upd Sx11 408 (moC (upd I1 36 ((Int8.ofInt 12).toInt32)) (lN ty) li)) 408 = some (moC (upd I1 36 ((Int8.ofInt 12).toInt32)) (lN ty) li) := am_get_self hl_I1.1.1
    have hf_Sx12 : fr [408] Sx11 (am_upd Sx11 408 (moC (upd I1 36 ((Int8.ofInt 12).toInt32)) (lN ty) li)) := fr_up (by simp)
    generalize am_upd Sx11 408 (moC (upd I1 36 ((Int8.ofInt 12).toInt32)) (lN ty) li) = Sx12 at h_Sx12 hf_Sx12 ⊢
    iterate 2 refine wp_step rfl rfl ?_
    have hg_J8 : gf [36] I1 (upd I1 36 ((Int8.ofInt 12).toInt32)) := gf_up (gf_refl _ _) (by simp)
    have J8_36 : (upd I1 36 ((Int8.ofInt 12).toInt32)) 36 = nI 12 := pk_us
    have a_J8 := h_Sx12
    have hf_J8 := hf_Sx12
    clear h_Sx12 hf_Sx12
    generalize upd I1 36 ((Int8.ofInt 12).toInt32) = J8 at a_J8 hg_J8 J8_36
    have hl8 := lkS_1 (st' := lN ty) (li' := li) hl_I1 hf_J8 a_J8 hg_J8 (by decide) (by decide) (by decide) (by decide) (by decide)
    refine wp_step rfl rfl ?_
    refine wp_getg (v := (.int (nI 12))) rfl a_J8 (by decide) (congrArg Value.int J8_36) ?_
    refine wp_if_t rfl rfl ?_
    refine wp_vret rfl rfl (hq Sx12 J8 _ li K (fr_trans hf1 (fr_mono hf_J8 (fun j hj => by simp only [List.mem_cons, List.not_mem_nil, or_false] at hj ⊢; omega))) (gf_trans hg1 (gf_mono hg_J8 (fun j hj => by simp only [List.mem_cons, List.not_mem_nil, or_false] at hj ⊢; omega))) hl8 (hend J8 12 (by unfold kyOf; rw [if_neg (show ¬ (2 : Nat) = 1 by decide), if_neg (fun h9 => absurd h9.1 (show ¬ (2 : Nat) = 0 by decide))]) (by unfold kdOf; rw [if_pos (show 2 ≤ 2 by decide)]) (by decide) J8_36 ((hg_J8 33 (by decide)).trans k33) ((hg_J8 35 (by decide)).trans k35)))
  · refine wp_step rfl rfl ?_
    refine wp_getg (v := (.int (nI 3))) rfl a_I1 (by decide) (congrArg Value.int k35) ?_
    iterate 2 refine wp_step rfl rfl ?_
    refine wp_if_t rfl rfl ?_
    iterate 3 refine wp_step rfl rfl ?_
    refine wp_getg (v := (.int (nI 3))) rfl a_I1 (by decide) (congrArg Value.int k35) ?_
    refine wp_if_t rfl rfl ?_
    iterate 3 refine wp_step rfl rfl ?_
    refine wp_if_t rfl rfl ?_
    iterate 3 refine wp_step rfl rfl ?_
    refine wp_if_f rfl rfl ?_
    refine wp_step rfl rfl ?_
    refine wp_if_t rfl rfl ?_
    refine wp_step rfl rfl ?_
    refine wp_getg (v := (.int (nI 3))) rfl a_I1 (by decide) (congrArg Value.int k35) ?_
    iterate 2 refine wp_step rfl rfl ?_
    refine wp_if_f rfl rfl ?_
    iterate 2 refine wp_step rfl rfl ?_
    refine wp_putg rfl hl_I1.1.1 (by decide) rfl rfl ?_
    rw [mkG_i rfl]
    have h_Sx13 : am_get (am_upd Sx11 408 (moC (upd I1 36 ((Int8.ofInt 12).toInt32)) (lN ty) li)) 408 = some (moC (upd I1 36 ((Int8.ofInt 12).toInt32)) (lN ty) li) := am_get_self hl_I1.1.1
    have hf_Sx13 : fr [408] Sx11 (am_upd Sx11 408 (moC (upd I1 36 ((Int8.ofInt 12).toInt32)) (lN ty) li)) := fr_up (by simp)
    generalize am_upd Sx11 408 (moC (upd I1 36 ((Int8.ofInt 12).toInt32)) (lN ty) li) = Sx13 at h_Sx13 hf_Sx13 ⊢
    iterate 2 refine wp_step rfl rfl ?_
    have hg_J8 : gf [36] I1 (upd I1 36 ((Int8.ofInt 12).toInt32)) := gf_up (gf_refl _ _) (by simp)
    have J8_36 : (upd I1 36 ((Int8.ofInt 12).toInt32)) 36 = nI 12 := pk_us
    have a_J8 := h_Sx13
    have hf_J8 := hf_Sx13
    clear h_Sx13 hf_Sx13
    generalize upd I1 36 ((Int8.ofInt 12).toInt32) = J8 at a_J8 hg_J8 J8_36
    have hl8 := lkS_1 (st' := lN ty) (li' := li) hl_I1 hf_J8 a_J8 hg_J8 (by decide) (by decide) (by decide) (by decide) (by decide)
    refine wp_step rfl rfl ?_
    refine wp_getg (v := (.int (nI 12))) rfl a_J8 (by decide) (congrArg Value.int J8_36) ?_
    refine wp_if_t rfl rfl ?_
    refine wp_vret rfl rfl (hq Sx13 J8 _ li K (fr_trans hf1 (fr_mono hf_J8 (fun j hj => by simp only [List.mem_cons, List.not_mem_nil, or_false] at hj ⊢; omega))) (gf_trans hg1 (gf_mono hg_J8 (fun j hj => by simp only [List.mem_cons, List.not_mem_nil, or_false] at hj ⊢; omega))) hl8 (hend J8 12 (by unfold kyOf; rw [if_neg (show ¬ (3 : Nat) = 1 by decide), if_neg (fun h9 => absurd h9.1 (show ¬ (3 : Nat) = 0 by decide))]) (by unfold kdOf; rw [if_pos (show 2 ≤ 3 by decide)]) (by decide) J8_36 ((hg_J8 33 (by decide)).trans k33) ((hg_J8 35 (by decide)).trans k35)))
set_option maxHeartbeats 2000000 in
theorem se_loop (hb : ∀ j, b j < 256) (hR : reQ b tot re) : ∀ (n f : Nat), f ≤ n → ∀ (keys : Nat) (w : jV) (S : am_S) (I : Nat → Int32) (li : Int64) (K : jMK) (x2 x3 x4 x5 x6 x7 : Option Value), keys + f = 6 → lkS S I (lN w.1) li b v tot re M E C K ci ck → I 36 = -1 → vgd ck.2.2.1 b tot w → I 33 = nI w.2.2 → I 35 = nI w.2.1 → (∀ T J st' li' K', fr [408, 425, 426, 427] S T → gf [21, 22, 24, 29, 33, 35, 36, 57] I J → lkS T J st' li' b v tot re M E C K' ci ck → spO ck.2.2.1 b tot J st' (stl b tot ck.2.2.2 f w) → Q (.inl none, T)) → wp X (d + 9) 133 7 [some (.ref 408), some (.int (nI keys)), x2, x3, x4, x5, x6, x7] [] S Q := by
  intro n
  induction n with
  | zero =>
    intro f hfn
    have ih : ∀ g : Nat, g < f → ∀ (keys : Nat) (w : jV) (S : am_S) (I : Nat → Int32) (li : Int64) (K : jMK) (x2 x3 x4 x5 x6 x7 : Option Value), keys + g = 6 → lkS S I (lN w.1) li b v tot re M E C K ci ck → I 36 = -1 → vgd ck.2.2.1 b tot w → I 33 = nI w.2.2 → I 35 = nI w.2.1 → (∀ T J st' li' K', fr [408, 425, 426, 427] S T → gf [21, 22, 24, 29, 33, 35, 36, 57] I J → lkS T J st' li' b v tot re M E C K' ci ck → spO ck.2.2.1 b tot J st' (stl b tot ck.2.2.2 g w) → Q (.inl none, T)) → wp X (d + 9) 133 7 [some (.ref 408), some (.int (nI keys)), x2, x3, x4, x5, x6, x7] [] S Q := fun g hg9 => absurd hg9 (by omega)
    exact se_step hb hR f ih
  | succ n ihn =>
    intro f hfn
    exact se_step hb hR f (fun g hg9 => ihn g (by omega))
theorem q_msettle {S : am_S} {I : Nat → Int32} {li : Int64} {K : jMK} {w : jV} (hb : ∀ j, b j < 256) (hR : reQ b tot re) (h : lkS S I (lN w.1) li b v tot re M E C K ci ck) (hg : vgd ck.2.2.1 b tot w) (h33 : I 33 = nI w.2.2) (h35 : I 35 = nI w.2.1) (hq : ∀ T J st' li' K', fr [408, 425, 426, 427] S T → gf [21, 22, 24, 29, 33, 35, 36, 57] I J → lkS T J st' li' b v tot re M E C K' ci ck → spO ck.2.2.1 b tot J st' (stl b tot ck.2.2.2 6 w) → Q (.inl none, T)) : ev X (d + 10) 133 [.ref 408] S Q := by
  refine ev_wp (L0 := [some (.ref 408), none, none, none, none, none, none, none]) (Nat.le_of_ble_eq_true rfl) rfl ?_
  iterate 4 refine wp_step rfl rfl ?_
  refine wp_putg rfl h.1.1 (by decide) rfl rfl ?_
  rw [mkG_i rfl]
  have h_Sx18 : am_get (am_upd S 408 (moC (upd I 36 (Int32.ofInt (-1))) (lN w.1) li)) 408 = some (moC (upd I 36 (Int32.ofInt (-1))) (lN w.1) li) := am_get_self h.1.1
  have hf_Sx18 : fr [408] S (am_upd S 408 (moC (upd I 36 (Int32.ofInt (-1))) (lN w.1) li)) := fr_up (by simp)
  generalize am_upd S 408 (moC (upd I 36 (Int32.ofInt (-1))) (lN w.1) li) = Sx18 at h_Sx18 hf_Sx18 ⊢
  have hg_I0 : gf [36] I (upd I 36 (Int32.ofInt (-1))) := gf_up (gf_refl _ _) (by simp)
  have I0_36 : (upd I 36 (Int32.ofInt (-1))) 36 = -1 := pk_us
  have a_I0 := h_Sx18
  have hf_I0 := hf_Sx18
  clear h_Sx18 hf_Sx18
  generalize upd I 36 (Int32.ofInt (-1)) = I0 at a_I0 hg_I0 I0_36
  have hl0 := lkS_1 (st' := lN w.1) (li' := li) h hf_I0 a_I0 hg_I0 (by decide) (by decide) (by decide) (by decide) (by decide)
  exact se_loop hb hR 6 6 (Nat.le_refl _) 0 w Sx18 I0 li K none none none none none none (by decide) hl0 I0_36 hg ((hg_I0 33 (by decide)).trans h33) ((hg_I0 35 (by decide)).trans h35) (fun T2 J2 st2 li2 K2 g1 g2 g3 g4 => hq T2 J2 st2 li2 K2 (fr_trans (fr_mono hf_I0 (fun j hj => by simp only [List.mem_cons, List.not_mem_nil, or_false] at hj ⊢; omega)) g1) (gf_trans (gf_mono hg_I0 (fun j hj => by simp only [List.mem_cons, List.not_mem_nil, or_false] at hj ⊢; omega)) g2) g3 g4)
end MSETTLE
