/-! THE MODEL: spotStructure, come, step -/
/-- nothing, or a spot -/
def spR (τ : jTT) (b : Nat → Nat) (tot : Nat) (J : Nat → Int32) (st : Int64) : Option (Option jV) → Prop
  | none => J 36 = 0
  | some o => spO τ b tot J st o
/-- one step from a spot -/
def stR (τ : jTT) (b : Nat → Nat) (tot : Nat) (L : List jK) (c : Nat) : Option jV → Option (Option jV)
  | none => none
  | some w => (stp τ b tot w c).map (stl b tot L 6)
theorem rvs_uncons {τ : jTT} {b : Nat → Nat} {tot p p2 : Nat} {j : Nat × Nat} {js : List (Nat × Nat)} (h : ∀ m, ∃ m', rvs (rv τ b false tot 21) (j :: js) p m = .inr (p2, m')) : ∃ p1, (∀ m, ∃ m', rv τ b false tot 21 j.1 j.2 p m = .inr (p1, m')) ∧ ∀ m, ∃ m', rvs (rv τ b false tot 21) js p1 m = .inr (p2, m') := by
  obtain ⟨m', h0⟩ := h 0
  obtain ⟨ty, fl⟩ := j
  unfold rvs at h0
  cases e : rv τ b false tot 21 ty fl p 0 with
  | inl x => rw [e] at h0; cases h0
  | inr x =>
    obtain ⟨p1, n1⟩ := x
    rw [e] at h0
    exact ⟨p1, rv_im (Nat.le_refl _) 21 21 (Nat.le_refl _) _ _ _ _ _ _ e, rvs_im (rv_im (Nat.le_refl _) 21 21 (Nat.le_refl _)) h0⟩
theorem rdb_ar {τ : jTT} {b : Nat → Nat} {tot ty fl p : Nat} (h : rdb τ b tot (ty, fl, p)) (hf : 2 ≤ fl) : ∃ len p1, cnt (Bn b) tot p = some (len, p1) ∧ ∀ i, i < len → ∃ p2, (∀ m, ∃ m', rvs (rv τ b false tot 21) (List.replicate i (ty, fl % 2)) p1 m = .inr (p2, m')) ∧ rdb τ b tot (ty, fl % 2, p2) := by
  obtain ⟨p', h⟩ := h
  obtain ⟨m', h⟩ := h 0
  dsimp only at h
  unfold rv at h
  rw [if_neg (by simp), if_pos hf] at h
  cases e : cnt (Bn b) tot p with
  | none => rw [e] at h; cases h
  | some x =>
    obtain ⟨len, p1⟩ := x
    rw [e] at h
    dsimp only at h
    refine ⟨len, p1, rfl, fun i hi => ?_⟩
    obtain ⟨q1, n1, q2, n2, g1, g2⟩ := rvs_cut (i := i) (j := (ty, fl % 2)) h (by rw [List.getElem?_replicate, if_pos hi])
    rw [List.take_replicate, Nat.min_eq_left (by omega)] at g1
    exact ⟨q1, rvs_im (rv_im (Nat.le_refl _) 20 21 (by decide)) g1, rdb_of (w := (ty, fl % 2, q1)) g2 (Nat.le_refl _) (by decide)⟩
theorem rdb_st {τ : jTT} {b : Nat → Nat} {tot ty p t f : Nat} {x : jTy} {y : jFd} (h : rdb τ b tot (ty, 0, p)) (h10 : 10 < ty) (ht : tix τ ty = some t) (hx : τ[t]? = some x) (hy : x.2.2.2[f]? = some y) : ∃ p2, (∀ m, ∃ m', rvs (rv τ b false tot 21) (fjs (x.2.2.2.take f)) p m = .inr (p2, m')) ∧ rdb τ b tot (y.2.1, y.2.2, p2) := by
  obtain ⟨p', h⟩ := h
  obtain ⟨m', h⟩ := h 0
  dsimp only at h
  unfold rv at h
  rw [if_neg (by simp), if_neg (by decide), if_neg (by decide), if_neg (by omega), if_neg (by omega), ht] at h
  dsimp only at h
  rw [hx] at h
  dsimp only at h
  obtain ⟨q1, n1, q2, n2, g1, g2⟩ := rvs_cut (i := f) (j := (y.2.1, y.2.2)) h (by unfold fjs; rw [List.getElem?_map, hy]; rfl)
  have e9 : (fjs x.2.2.2).take f = fjs (x.2.2.2.take f) := by unfold fjs; rw [List.map_take]
  rw [e9] at g1
  exact ⟨q1, rvs_im (rv_im (Nat.le_refl _) 20 21 (by decide)) g1, rdb_of (w := (y.2.1, y.2.2, q1)) g2 (Nat.le_refl _) (by decide)⟩
section MSTEP
variable {X : Nat × (Nat → Int32)} {d : Nat} {Q : am_R → Prop} {b : Nat → Nat} {v tot ci : Nat} {re : jRe} {M : jMT} {E : jME} {C : jMC} {ck : jCk}
theorem wf_bd {τ : jTT} (hw : wfT τ) : ∀ (i : Nat) (x : jTy), τ[i]? = some x → x.1 < 2 ^ 31 ∧ x.2.2.1 < 2 ^ 31 := fun i x hx => by
  have h := (wf_ty hw hx).1
  unfold tyOK at h
  omega
theorem q_mspot {S : am_S} {I : Nat → Int32} {li : Int64} {K : jMK} {ty t : Nat} (h : lkS S I (lN ty) li b v tot re M E C K ci ck) (hty : ty < 2 ^ 31) (ht : tix ck.2.2.1 ty = some t) (hq : Q (.inl (some (.int (nI (10 * (4 * v + ci) + t)))), S)) : ev X (d + 2) 134 [.ref 408] S Q := by
  refine ev_wp (L0 := [some (.ref 408)]) (Nat.le_of_ble_eq_true rfl) rfl ?_
  iterate 2 refine wp_step rfl rfl ?_
  refine wp_getg rfl h.1.1 (by decide) rfl ?_
  refine wp_step rfl rfl ?_
  obtain ⟨hci, hv, htot, hT, hmck, hC⟩ := lkS_sl h
  refine wp_c0 rfl rfl (by decide) rfl (recv_ok h.1.1 rfl) rfl (q_mtypeOf (kd := none) h.1.1 h.2.2.1 h.1.2.2.2.2.2.2.2.2.1 hT (by omega) hmck.1.1 hty (fun k h9 => by cases h9) (wf_bd hmck.1) ?_)
  rw [show tof ck.2.2.1 ty none = tix ck.2.2.1 ty from rfl, ht]
  refine wp_iret rfl rfl rfl hq
theorem q_mcome {S : am_S} {I : Nat → Int32} {st li : Int64} {K : jMK} {w : jV} (hb : ∀ j, b j < 256) (hR : reQ b tot re) (h : lkS S I st li b v tot re M E C K ci ck) (hg : vgd ck.2.2.1 b tot w) (h21 : I 21 = nI w.2.2) (hq : ∀ T J st' li' K', fr [408, 425, 426, 427] S T → gf [21, 22, 24, 29, 33, 35, 36, 57] I J → lkS T J st' li' b v tot re M E C K' ci ck → spO ck.2.2.1 b tot J st' (stl b tot ck.2.2.2 6 w) → Q (.inl none, T)) : ev X (d + 11) 136 [.ref 408, .long (lN w.1), .int (nI w.2.1)] S Q := by
  refine ev_wp (L0 := [some (.ref 408), some (.long (lN w.1)), none, some (.int (nI w.2.1))]) (Nat.le_of_ble_eq_true rfl) rfl ?_
  iterate 2 refine wp_step rfl rfl ?_
  refine wp_getg (v := (.int (nI w.2.2))) rfl h.1.1 (by decide) (congrArg Value.int h21) ?_
  refine wp_putg rfl h.1.1 (by decide) rfl rfl ?_
  rw [mkG_i rfl]
  have h_Sx1 : am_get (am_upd S 408 (moC (upd I 33 (nI w.2.2)) st li)) 408 = some (moC (upd I 33 (nI w.2.2)) st li) := am_get_self h.1.1
  have hf_Sx1 : fr [408] S (am_upd S 408 (moC (upd I 33 (nI w.2.2)) st li)) := fr_up (by simp)
  generalize am_upd S 408 (moC (upd I 33 (nI w.2.2)) st li) = Sx1 at h_Sx1 hf_Sx1 ⊢
  iterate 2 refine wp_step rfl rfl ?_
  refine wp_putg rfl h_Sx1 (by decide) rfl rfl ?_
  rw [mkG_34]
  have h_Sx2 : am_get (am_upd Sx1 408 (moC (upd I 33 (nI w.2.2)) (lN w.1) li)) 408 = some (moC (upd I 33 (nI w.2.2)) (lN w.1) li) := am_get_self h_Sx1
  have hf_Sx2 : fr [408] S (am_upd Sx1 408 (moC (upd I 33 (nI w.2.2)) (lN w.1) li)) := fr_trans hf_Sx1 (fr_up (by simp))
  generalize am_upd Sx1 408 (moC (upd I 33 (nI w.2.2)) (lN w.1) li) = Sx2 at h_Sx2 hf_Sx2 ⊢
  clear h_Sx1 hf_Sx1
  iterate 2 refine wp_step rfl rfl ?_
  refine wp_putg rfl h_Sx2 (by decide) rfl rfl ?_
  rw [mkG_i rfl]
  have h_Sx3 : am_get (am_upd Sx2 408 (moC (upd (upd I 33 (nI w.2.2)) 35 (nI w.2.1)) (lN w.1) li)) 408 = some (moC (upd (upd I 33 (nI w.2.2)) 35 (nI w.2.1)) (lN w.1) li) := am_get_self h_Sx2
  have hf_Sx3 : fr [408] S (am_upd Sx2 408 (moC (upd (upd I 33 (nI w.2.2)) 35 (nI w.2.1)) (lN w.1) li)) := fr_trans hf_Sx2 (fr_up (by simp))
  generalize am_upd Sx2 408 (moC (upd (upd I 33 (nI w.2.2)) 35 (nI w.2.1)) (lN w.1) li) = Sx3 at h_Sx3 hf_Sx3 ⊢
  clear h_Sx2 hf_Sx2
  refine wp_step rfl rfl ?_
  have hg_J : gf [33, 35] I (upd (upd I 33 (nI w.2.2)) 35 (nI w.2.1)) := gf_up (gf_up (gf_refl _ _) (by simp)) (by simp)
  have J_33 : (upd (upd I 33 (nI w.2.2)) 35 (nI w.2.1)) 33 = nI w.2.2 := (pk_un (by decide)).trans pk_us
  have J_35 : (upd (upd I 33 (nI w.2.2)) 35 (nI w.2.1)) 35 = nI w.2.1 := pk_us
  have a_J := h_Sx3
  have hf_J := hf_Sx3
  clear h_Sx3 hf_Sx3
  generalize upd (upd I 33 (nI w.2.2)) 35 (nI w.2.1) = J at a_J hg_J J_33 J_35
  have hl1 := lkS_1 (st' := lN w.1) (li' := li) h hf_J a_J hg_J (by decide) (by decide) (by decide) (by decide) (by decide)
  refine wp_c0 rfl rfl (by decide) rfl (recv_ok a_J rfl) rfl (q_msettle hb hR hl1 hg J_33 J_35 (fun T2 J2 st2 li2 K2 hf2 hg2 hl2 hs2 => ?_))
  refine wp_vret rfl rfl (hq T2 J2 st2 li2 K2 (fr_trans (fr_mono hf_J (fun j hj => by simp only [List.mem_cons, List.not_mem_nil, or_false] at hj ⊢; omega)) hf2) (gf_trans (gf_mono hg_J (fun j hj => by simp only [List.mem_cons, List.not_mem_nil, or_false] at hj ⊢; omega)) hg2) hl2 hs2)
theorem sp_fl {τ : jTT} {st li : Int64} {s f p2 sl : Nat} {fs : List jFd} {z1 : Int32} (hb : ∀ j, b j < 256) (hc : mckT τ) (hT : mTy M sl τ) (hsl : sl < 8) (hs : s < 80) (hFs : mFs M s fs) (h8 : fs.length ≤ 8) (hff : f < fs.length) (hfo : ∀ y, y ∈ fs → knM τ y.2.1 ∧ y.2.2 ≤ 3 ∧ sf τ 21 y.2.1 y.2.2) : ∀ (m k p : Nat) (S : am_S) (I : Nat → Int32) (K : jMK), k + m = f → (∀ n, ∃ n', rvs (rv τ b false tot 21) ((fjs (fs.take f)).drop k) p n = .inr (p2, n')) → mWk S I st li b v p tot sl M K → (∀ T J K', fr [408, 425, 426, 427] S T → gf [21, 24, 29] I J → mWk T J st li b v p2 tot sl M K' → wp X (d + 11) 135 113 [some (.ref 408), some (.int z1), some (.int (nI s)), some (.int (nI f)), some (.int (nI f))] [] T Q) → wp X (d + 11) 135 73 [some (.ref 408), some (.int z1), some (.int (nI s)), some (.int (nI f)), some (.int (nI k))] [] S Q := by
  intro m
  induction m with
  | zero =>
    intro k p S I K hkm hr h hgo
    have hce : k = f := by omega
    subst hce
    iterate 2 refine wp_step rfl rfl ?_
    refine wp_icmp rfl (fun c0 => ?_) (fun c0 => ?_)
    · replace c0 := n_ge_t (a := k) (b := k) (by omega) (by omega) c0
      rw [List.drop_eq_nil_of_le (by simp; omega)] at hr
      obtain ⟨m9, hr⟩ := hr 0
      cases hr
      exact hgo S I K (fr_refl _ _) (gf_refl _ _) h
    · replace c0 := n_ge_f (a := k) (b := k) (by omega) (by omega) c0
      omega
  | succ m ih =>
    intro k p S I K hkm hr h hgo
    iterate 2 refine wp_step rfl rfl ?_
    refine wp_icmp rfl (fun c0 => ?_) (fun c0 => ?_)
    · replace c0 := n_ge_t (a := k) (b := f) (by omega) (by omega) c0
      omega
    · replace c0 := n_ge_f (a := k) (b := f) (by omega) (by omega) c0
      have hkl : k < fs.length := by omega
      have hky : fs[k]? = some fs[k] := List.getElem?_eq_getElem hkl
      generalize fs[k] = y at hky
      have hd9 : (fjs (fs.take f)).drop k = (y.2.1, y.2.2) :: (fjs (fs.take f)).drop (k + 1) := by
        have hlen : k < (fjs (fs.take f)).length := by unfold fjs; simp; omega
        rw [List.drop_eq_getElem_cons hlen]
        congr 1
        have : (fjs (fs.take f))[k]? = some (y.2.1, y.2.2) := by
          unfold fjs
          rw [List.getElem?_map, List.getElem?_take_of_lt (by omega), hky]
          rfl
        rw [List.getElem?_eq_getElem hlen] at this
        exact Option.some.inj this
      rw [hd9] at hr
      obtain ⟨p1, hr1, hr2⟩ := rvs_uncons hr
      obtain ⟨_, hm2, hm3⟩ := hFs.2 k y hky
      obtain ⟨hkn, hf3, hsf⟩ := hfo y (List.mem_of_getElem? hky)
      iterate 2 refine wp_step rfl rfl ?_
      refine wp_getg rfl h.1.1 (by decide) rfl ?_
      iterate 5 refine wp_step rfl rfl ?_
      rw [show (Int8.ofInt 8).toInt32 * nI s = nI (8 * s) from pk_mul 8 s, nI_add]
      refine wp_lald rfl (by decide) h.2.2.2.2.2.2.2.2.2.2.1 (am_in_nI (by omega) (by decide)) ?_
      rw [nI_clamp (by omega)]
      rw [hm2]
      refine wp_step rfl rfl ?_
      refine wp_getg rfl h.1.1 (by decide) rfl ?_
      iterate 5 refine wp_step rfl rfl ?_
      rw [show (Int8.ofInt 8).toInt32 * nI s = nI (8 * s) from pk_mul 8 s, nI_add]
      refine wp_ald rfl (Or.inl ⟨rfl, rfl⟩) (by decide) h.2.2.2.2.2.2.2.2.2.2.2 (am_in_nI (by omega) (by decide)) ?_
      rw [nI_clamp (by omega)]
      rw [hm3]
      refine wp_c0 rfl rfl (by decide) rfl (recv_ok h.1.1 rfl) rfl (q_wpass hb hc hT hsl hkn hf3 hsf h hr1 (fun T J K2 hf1 hg1 h1 => ?_))
      iterate 2 refine wp_step rfl rfl ?_
      rw [show nI k + Int32.ofInt 1 = nI (k + 1) from nI_add k 1]
      exact ih (k + 1) p1 T J K2 (by omega) hr2 h1 (fun T3 J3 K3 hf3 hg3 h3 => hgo T3 J3 K3 (fr_trans hf1 hf3) (gf_trans hg1 hg3) h3)
theorem sp_ar {τ : jTT} {li : Int64} {ty fl i len p2 sl : Nat} {z1 : Int32} (hb : ∀ j, b j < 256) (hc : mckT τ) (hT : mTy M sl τ) (hsl : sl < 8) (hkn : knM τ ty) (hsf : sf τ 21 ty (fl % 2)) (hil : i < len) (hi9 : i ≤ 9) (hlen : len < 2 ^ 31) (hand : nI fl &&& Int32.ofInt 1 = nI (fl % 2)) : ∀ (m k p : Nat) (S : am_S) (I : Nat → Int32) (K : jMK), k + m = i → (∀ n, ∃ n', rvs (rv τ b false tot 21) (List.replicate m (ty, fl % 2)) p n = .inr (p2, n')) → mWk S I (lN ty) li b v p tot sl M K → I 35 = nI fl → (∀ T J K', fr [408, 425, 426, 427] S T → gf [21, 24, 29] I J → mWk T J (lN ty) li b v p2 tot sl M K' → wp X (d + 11) 135 211 [some (.ref 408), some (.int z1), some (.int (nI len)), some (.int (nI i)), some (.int (nI i))] [] T Q) → wp X (d + 11) 135 180 [some (.ref 408), some (.int z1), some (.int (nI len)), some (.int (nI i)), some (.int (nI k))] [] S Q := by
  intro m
  induction m with
  | zero =>
    intro k p S I K hkm hr h h35 hgo
    have hce : k = i := by omega
    subst hce
    iterate 2 refine wp_step rfl rfl ?_
    refine wp_icmp rfl (fun c0 => ?_) (fun c0 => ?_)
    · replace c0 := n_ge_t (a := k) (b := k) (by omega) (by omega) c0
      obtain ⟨m9, hr⟩ := hr 0
      cases hr
      exact hgo S I K (fr_refl _ _) (gf_refl _ _) h
    · replace c0 := n_ge_f (a := k) (b := k) (by omega) (by omega) c0
      omega
  | succ m ih =>
    intro k p S I K hkm hr h h35 hgo
    iterate 2 refine wp_step rfl rfl ?_
    refine wp_icmp rfl (fun c0 => ?_) (fun c0 => ?_)
    · replace c0 := n_ge_t (a := k) (b := i) (by omega) (by omega) c0
      omega
    · replace c0 := n_ge_f (a := k) (b := i) (by omega) (by omega) c0
      iterate 2 refine wp_step rfl rfl ?_
      refine wp_icmp rfl (fun c1 => ?_) (fun c1 => ?_)
      · replace c1 := n_ge_t (a := i) (b := len) (by omega) (by omega) c1
        omega
      · replace c1 := n_ge_f (a := i) (b := len) (by omega) (by omega) c1
        rw [List.replicate_succ] at hr
        obtain ⟨p1, hr1, hr2⟩ := rvs_uncons hr
        iterate 2 refine wp_step rfl rfl ?_
        refine wp_getg rfl h.1.1 (by decide) rfl ?_
        refine wp_step rfl rfl ?_
        refine wp_getg (v := (.int (nI fl))) rfl h.1.1 (by decide) (congrArg Value.int h35) ?_
        iterate 2 refine wp_step rfl rfl ?_
        rw [hand]
        refine wp_c0 rfl rfl (by decide) rfl (recv_ok h.1.1 rfl) rfl (q_wpass hb hc hT hsl hkn (by omega) hsf h hr1 (fun T J K2 hf1 hg1 h1 => ?_))
        iterate 2 refine wp_step rfl rfl ?_
        rw [show nI k + Int32.ofInt 1 = nI (k + 1) from nI_add k 1]
        exact ih (k + 1) p1 T J K2 (by omega) hr2 h1 ((hg1 35 (by decide)).trans h35) (fun T3 J3 K3 hf3 hg3 h3 => hgo T3 J3 K3 (fr_trans hf1 hf3) (gf_trans hg1 hg3) h3)
theorem st_241 {S : am_S} {I : Nat → Int32} {st li : Int64} {K : jMK} {z1 : Int32} {x2 x3 x4 : Option Value} (h : lkS S I st li b v tot re M E C K ci ck) (hq : ∀ T J st' li' K', fr [408, 425, 426, 427] S T → gf [21, 22, 24, 29, 33, 35, 36, 57] I J → lkS T J st' li' b v tot re M E C K' ci ck → spR ck.2.2.1 b tot J st' (none) → Q (.inl none, T)) : wp X (d + 11) 135 241 [some (.ref 408), some (.int (z1)), x2, x3, x4] [] S Q := by
  iterate 2 refine wp_step rfl rfl ?_
  refine wp_putg rfl h.1.1 (by decide) rfl rfl ?_
  rw [mkG_i rfl]
  have h_Sx4 : am_get (am_upd S 408 (moC (upd I 36 (Int32.ofInt 0)) st li)) 408 = some (moC (upd I 36 (Int32.ofInt 0)) st li) := am_get_self h.1.1
  have hf_Sx4 : fr [408] S (am_upd S 408 (moC (upd I 36 (Int32.ofInt 0)) st li)) := fr_up (by simp)
  generalize am_upd S 408 (moC (upd I 36 (Int32.ofInt 0)) st li) = Sx4 at h_Sx4 hf_Sx4 ⊢
  have hg_J7 : gf [36] I (upd I 36 (Int32.ofInt 0)) := gf_up (gf_refl _ _) (by simp)
  have J7_36 : (upd I 36 (Int32.ofInt 0)) 36 = 0 := pk_us
  have a_J7 := h_Sx4
  have hf_J7 := hf_Sx4
  clear h_Sx4 hf_Sx4
  generalize upd I 36 (Int32.ofInt 0) = J7 at a_J7 hg_J7 J7_36
  refine wp_vret rfl rfl (hq Sx4 J7 _ li K (fr_trans (fr_refl _ _) (fr_mono hf_J7 (fun j hj => by simp only [List.mem_cons, List.not_mem_nil, or_false] at hj ⊢; omega))) (gf_trans (gf_refl _ _) (gf_mono hg_J7 (fun j hj => by simp only [List.mem_cons, List.not_mem_nil, or_false] at hj ⊢; omega))) (lkS_1 (st' := st) (li' := li) h hf_J7 a_J7 hg_J7 (by decide) (by decide) (by decide) (by decide) (by decide)) (J7_36))
theorem st_146 {S : am_S} {I : Nat → Int32} {st li : Int64} {K : jMK} {z1 : Int32} {x2 x3 x4 : Option Value} {n : Nat} (h : lkS S I st li b v tot re M E C K ci ck) (h36 : I 36 = nI n) (hn : n ≠ 12) (hn9 : n < 2 ^ 31) (hq : ∀ T J st' li' K', fr [408, 425, 426, 427] S T → gf [21, 22, 24, 29, 33, 35, 36, 57] I J → lkS T J st' li' b v tot re M E C K' ci ck → spR ck.2.2.1 b tot J st' (none) → Q (.inl none, T)) : wp X (d + 11) 135 146 [some (.ref 408), some (.int (z1)), x2, x3, x4] [] S Q := by
  refine wp_step rfl rfl ?_
  refine wp_getg (v := (.int (nI n))) rfl h.1.1 (by decide) (congrArg Value.int h36) ?_
  refine wp_step rfl rfl ?_
  refine wp_icmp rfl (fun c0 => ?_) (fun c0 => ?_)
  · replace c0 := n_ne_t (a := n) (b := 12) (by omega) (by omega) c0
    exact st_241 h hq
  · replace c0 := n_ne_f (a := n) (b := 12) (by omega) (by omega) c0
    omega
theorem c1_lt_n {a : Nat} (ha : a < 2 ^ 31) : am_c1 .lt (nI a) = false := by
  cases h : am_c1 .lt (nI a) with
  | false => rfl
  | true => exact (z_lt_t ha h).elim
set_option maxHeartbeats 2000000 in
theorem st_42 {S : am_S} {I : Nat → Int32} {li : Int64} {K : jMK} {ty p c t : Nat} (hb : ∀ j, b j < 256) (hR : reQ b tot re) (h : lkS S I (lN ty) li b v tot re M E C K ci ck) (hw : mWk S I (lN ty) li b v p tot (4 * v + ci) M K) (hg : vgd ck.2.2.1 b tot (ty, 0, p)) (h10 : 10 < ty) (hty : ty < 2 ^ 31) (ht : tix ck.2.2.1 ty = some t) (hc : c < 256) (h36 : I 36 = nI 11) (hq : ∀ T J st' li' K', fr [408, 425, 426, 427] S T → gf [21, 22, 24, 29, 33, 35, 36, 57] I J → lkS T J st' li' b v tot re M E C K' ci ck → spR ck.2.2.1 b tot J st' (stR ck.2.2.1 b tot ck.2.2.2 c (some (ty, 0, p))) → Q (.inl none, T)) : wp X (d + 11) 135 42 [some (.ref 408), some (.int (nI c)), none, none, none] [] S Q := by
  obtain ⟨hci, hv, htot, hT, hmck, hC⟩ := lkS_sl h
  obtain ⟨x, hx, hx1, hxl⟩ := tix_some ht
  have hok := (wf_ty hmck.1 hx).1
  unfold tyOK at hok
  obtain ⟨_, _, hmx, hFs⟩ := hT.2 t x hx
  have hs80 : 10 * (4 * v + ci) + t < 80 := by have := hmck.1.1; omega
  refine wp_step rfl rfl ?_
  refine wp_c0 rfl rfl (by decide) rfl (recv_ok h.1.1 rfl) rfl (q_mspot h hty ht ?_)
  iterate 4 refine wp_step rfl rfl ?_
  refine wp_c0 rfl rfl (by decide) rfl (recv_ok h.1.1 rfl) rfl (q_mfieldOf h.1.1 h.1.2.2.2.2.2.2.2.2.1 hFs hs80 (by omega) (by omega) (fun i z hz => by have := hok.2.2.2.2.2.2 z (List.mem_of_getElem? hz); unfold fdOK at this; omega) ?_)
  generalize hsE : 10 * (4 * v + ci) + t = s at hFs hs80 ⊢
  cases ef : fdx x.2.2.2 c with
  | none =>
    show wp X (d + 11) 135 53 [some (.ref 408), some (.int (nI c)), some (.int (nI s)), none, none] [.int (Int32.ofInt (-1))] S Q
    iterate 3 refine wp_step rfl rfl ?_
    refine wp_if_f rfl rfl ?_
    iterate 2 refine wp_step rfl rfl ?_
    refine wp_putg rfl h.1.1 (by decide) rfl rfl ?_
    rw [mkG_i rfl]
    have h_Sx5 : am_get (am_upd S 408 (moC (upd I 36 (Int32.ofInt 0)) (lN ty) li)) 408 = some (moC (upd I 36 (Int32.ofInt 0)) (lN ty) li) := am_get_self h.1.1
    have hf_Sx5 : fr [408] S (am_upd S 408 (moC (upd I 36 (Int32.ofInt 0)) (lN ty) li)) := fr_up (by simp)
    generalize am_upd S 408 (moC (upd I 36 (Int32.ofInt 0)) (lN ty) li) = Sx5 at h_Sx5 hf_Sx5 ⊢
    iterate 4 refine wp_step rfl rfl ?_
    have hg_J7 : gf [36] I (upd I 36 (Int32.ofInt 0)) := gf_up (gf_refl _ _) (by simp)
    have J7_36 : (upd I 36 (Int32.ofInt 0)) 36 = 0 := pk_us
    have a_J7 := h_Sx5
    have hf_J7 := hf_Sx5
    clear h_Sx5 hf_Sx5
    generalize upd I 36 (Int32.ofInt 0) = J7 at a_J7 hg_J7 J7_36
    refine wp_icmp_t rfl rfl ?_
    refine wp_step rfl rfl ?_
    refine wp_if_t rfl rfl ?_
    refine wp_step rfl rfl ?_
    refine wp_vret rfl rfl (hq Sx5 J7 _ li K (fr_mono hf_J7 (fun j hj => by simp only [List.mem_cons, List.not_mem_nil, or_false] at hj ⊢; omega)) (gf_mono hg_J7 (fun j hj => by simp only [List.mem_cons, List.not_mem_nil, or_false] at hj ⊢; omega)) (lkS_1 (st' := lN ty) (li' := li) h hf_J7 a_J7 hg_J7 (by decide) (by decide) (by decide) (by decide) (by decide)) ?_)
    have e9 : stp ck.2.2.1 b tot (ty, 0, p) c = none := by
      unfold stp
      rw [if_neg (show ¬ 2 ≤ 0 by decide), if_pos ⟨rfl, h10⟩, ht]
      dsimp only
      rw [hx]
      dsimp only
      rw [ef]
    unfold stR
    dsimp only
    rw [e9]
    exact J7_36
  | some f =>
    obtain ⟨_, hfl9, hfy, _⟩ := fsti_some ef
    have hfl8 : f < x.2.2.2.length := by omega
    have hfy : x.2.2.2[f]? = some x.2.2.2[f] := List.getElem?_eq_getElem hfl8
    generalize x.2.2.2[f] = yf at hfy
    obtain ⟨p2, hr, hrd2⟩ := rdb_st hg.1 h10 ht hx hfy
    obtain ⟨_, hm2, hm3⟩ := hFs.2 f yf hfy
    have hyok := hok.2.2.2.2.2.2 yf (List.mem_of_getElem? hfy)
    unfold fdOK at hyok
    have hsE2 : stp ck.2.2.1 b tot (ty, 0, p) c = some (yf.2.1, yf.2.2, p2) := by
      unfold stp
      rw [if_neg (show ¬ 2 ≤ 0 by decide), if_pos ⟨rfl, h10⟩, ht]
      dsimp only
      rw [hx]
      dsimp only
      rw [ef]
      dsimp only
      rw [hfy]
      dsimp only
      obtain ⟨m9, e9⟩ := hr 0
      rw [e9]
    show wp X (d + 11) 135 53 [some (.ref 408), some (.int (nI c)), some (.int (nI s)), none, none] [.int (nI f)] S Q
    iterate 3 refine wp_step rfl rfl ?_
    refine wp_if_t rfl (c1_ge_n (by omega)) ?_
    refine wp_step rfl rfl ?_
    refine wp_getg (v := (.int (nI 11))) rfl h.1.1 (by decide) (congrArg Value.int h36) ?_
    refine wp_putg rfl h.1.1 (by decide) rfl rfl ?_
    rw [mkG_i rfl]
    have h_Sx6 : am_get (am_upd S 408 (moC (upd I 36 (nI 11)) (lN ty) li)) 408 = some (moC (upd I 36 (nI 11)) (lN ty) li) := am_get_self h.1.1
    have hf_Sx6 : fr [408] S (am_upd S 408 (moC (upd I 36 (nI 11)) (lN ty) li)) := fr_up (by simp)
    generalize am_upd S 408 (moC (upd I 36 (nI 11)) (lN ty) li) = Sx6 at h_Sx6 hf_Sx6 ⊢
    iterate 2 refine wp_step rfl rfl ?_
    have hg_J7 : gf [36] I (upd I 36 (nI 11)) := gf_up (gf_refl _ _) (by simp)
    have J7_36 : (upd I 36 (nI 11)) 36 = nI 11 := pk_us
    have a_J7 := h_Sx6
    have hf_J7 := hf_Sx6
    clear h_Sx6 hf_Sx6
    generalize upd I 36 (nI 11) = J7 at a_J7 hg_J7 J7_36
    have hl7 := lkS_1 (st' := lN ty) (li' := li) h hf_J7 a_J7 hg_J7 (by decide) (by decide) (by decide) (by decide) (by decide)
    have hw7 := mWk_up hw hf_J7 hg_J7 (by decide) (by decide) ⟨a_J7, mBy_fr hw.1.2.1 hf_J7 (by decide), (hg_J7 19 (by decide)).trans hw.1.2.2.1, (hg_J7 21 (by decide)).trans hw.1.2.2.2.1, (hg_J7 22 (by decide)).trans hw.1.2.2.2.2.1, (hg_J7 25 (by decide)).trans hw.1.2.2.2.2.2.1, hw.1.2.2.2.2.2.2⟩
    show wp X (d + 11) 135 73 [some (.ref 408), some (.int (nI c)), some (.int (nI s)), some (.int (nI f)), some (.int (nI 0))] [] Sx6 Q
    refine sp_fl hb hmck hT (by omega) hs80 hFs (by omega) hfl8 (fun z hz => ?_) f 0 p Sx6 J7 K (by omega) (by rw [List.drop_zero]; exact hr) hw7 (fun T J K2 hf2 hg2 h2 => ?_)
    · obtain ⟨i9, hz9⟩ := List.getElem?_of_mem hz
      have := hok.2.2.2.2.2.2 z hz
      unfold fdOK at this
      exact ⟨knM_fd hmck.1 hmck.2.1 hx hz9, this.2.2.2, sf_fd hmck.1 hmck.2.1 hmck.2.2 ht hx hz⟩
    have hl2 := lkS_of hl7 hf2 (fun j hj => by simp only [List.mem_cons, List.not_mem_nil, or_false] at hj; omega) hg2 h2 (by decide) (by decide) (by decide) (by decide) (by decide)
    have hf02 : fr [408, 425, 426, 427] S T := fr_trans (fr_mono hf_J7 (fun j hj => by simp only [List.mem_cons, List.not_mem_nil, or_false] at hj ⊢; omega)) hf2
    have hg02 : gf [21, 22, 24, 29, 33, 35, 36, 57] I J := gf_trans (gf_mono hg_J7 (fun j hj => by simp only [List.mem_cons, List.not_mem_nil, or_false] at hj ⊢; omega)) (gf_mono hg2 (fun j hj => by simp only [List.mem_cons, List.not_mem_nil, or_false] at hj ⊢; omega))
    refine wp_step rfl rfl ?_
    refine wp_if_f rfl (c1_lt_n (by omega)) ?_
    iterate 2 refine wp_step rfl rfl ?_
    refine wp_getg rfl h2.1.1 (by decide) rfl ?_
    iterate 5 refine wp_step rfl rfl ?_
    rw [show (Int8.ofInt 8).toInt32 * nI s = nI (8 * s) from pk_mul 8 s, nI_add]
    refine wp_lald rfl (by decide) h2.2.2.2.2.2.2.2.2.2.2.1 (am_in_nI (by omega) (by decide)) ?_
    rw [nI_clamp (by omega)]
    rw [hm2]
    refine wp_step rfl rfl ?_
    refine wp_getg rfl h2.1.1 (by decide) rfl ?_
    iterate 5 refine wp_step rfl rfl ?_
    rw [show (Int8.ofInt 8).toInt32 * nI s = nI (8 * s) from pk_mul 8 s, nI_add]
    refine wp_ald rfl (Or.inl ⟨rfl, rfl⟩) (by decide) h2.2.2.2.2.2.2.2.2.2.2.2 (am_in_nI (by omega) (by decide)) ?_
    rw [nI_clamp (by omega)]
    rw [hm3]
    refine wp_c0 rfl rfl (by decide) rfl (recv_ok h2.1.1 rfl) rfl (q_mcome (w := (yf.2.1, yf.2.2, p2)) hb hR hl2 ⟨hrd2, by show yf.2.2 ≤ 3; omega, by show yf.2.1 < 2 ^ 31; omega, h2.1.2.2.2.2.2.2.2.1, Or.inl (knM_fd hmck.1 hmck.2.1 hx hfy)⟩ h2.1.2.2.2.1 (fun T3 J3 st3 li3 K3 hf3 hg3 hl3 hs3 => ?_))
    refine wp_step rfl rfl ?_
    refine wp_vret rfl rfl (hq T3 J3 st3 li3 K3 (fr_trans hf02 hf3) (gf_trans hg02 hg3) hl3 (by unfold stR; dsimp only; rw [hsE2]; exact hs3))
set_option maxHeartbeats 2000000 in
theorem st_167 {S : am_S} {I : Nat → Int32} {li : Int64} {K : jMK} {ty fl p c : Nat} (hb : ∀ j, b j < 256) (hR : reQ b tot re) (h : lkS S I (lN ty) li b v tot re M E C K ci ck) (hw : mWk S I (lN ty) li b v p tot (4 * v + ci) M K) (hg : vgd ck.2.2.1 b tot (ty, fl, p)) (hfl : 2 ≤ fl) (hc : 48 ≤ c ∧ c ≤ 57) (h35 : I 35 = nI fl) (hq : ∀ T J st' li' K', fr [408, 425, 426, 427] S T → gf [21, 22, 24, 29, 33, 35, 36, 57] I J → lkS T J st' li' b v tot re M E C K' ci ck → spR ck.2.2.1 b tot J st' (stR ck.2.2.1 b tot ck.2.2.2 c (some (ty, fl, p))) → Q (.inl none, T)) : wp X (d + 11) 135 167 [some (.ref 408), some (.int (nI c)), none, none, none] [] S Q := by
  obtain ⟨hci, hv, htot, hT, hmck, hC⟩ := lkS_sl h
  obtain ⟨len, p1, ec, hel⟩ := rdb_ar hg.1 hfl
  have hcl := cnt_lt ec
  refine wp_step rfl rfl ?_
  refine wp_c0 rfl rfl (by decide) rfl (recv_ok h.1.1 rfl) rfl (q_wsmall hb hw ec (fun T J hf1 hg1 h1 => ?_))
  have hl1 := lkS_of h hf1 (fun j hj => by simp only [List.mem_cons, List.not_mem_nil, or_false] at hj; omega) hg1 h1 (by decide) (by decide) (by decide) (by decide) (by decide)
  have hf01 : fr [408, 425, 426, 427] S T := fr_mono hf1 (fun j hj => by simp only [List.mem_cons, List.not_mem_nil, or_false] at hj ⊢; omega)
  have hg01 : gf [21, 22, 24, 29, 33, 35, 36, 57] I J := gf_mono hg1 (fun j hj => by simp only [List.mem_cons, List.not_mem_nil, or_false] at hj ⊢; omega)
  have j35 := (hg1 35 (by decide)).trans h35
  iterate 3 refine wp_step rfl rfl ?_
  refine wp_step rfl rfl ?_
  rw [show nI c - (Int8.ofInt 48).toInt32 = nI (c - 48) from (pk_sub (by omega) : nI c - nI 48 = nI (c - 48))]
  iterate 3 refine wp_step rfl rfl ?_
  show wp X (d + 11) 135 180 [some (.ref 408), some (.int (nI c)), some (.int (nI len)), some (.int (nI (c - 48))), some (.int (nI 0))] [] T Q
  by_cases hlt : c - 48 < len
  · obtain ⟨p2, hr, hrd2⟩ := hel (c - 48) hlt
    have hmod : fl % 2 ≤ 1 := by omega
    have hkn : knM ck.2.2.1 ty := by
      rcases hg.2.2.2.2 with g | ⟨g, _⟩
      · exact g
      · dsimp only at g; omega
    have hand : nI fl &&& Int32.ofInt 1 = nI (fl % 2) := by
      have hf4 : fl = 2 ∨ fl = 3 := by have := hg.2.1; dsimp only at this; omega
      rcases hf4 with rfl | rfl <;> rfl
    have hsE2 : stp ck.2.2.1 b tot (ty, fl, p) c = some (ty, fl % 2, p2) := by
      unfold stp
      rw [if_pos hfl, if_neg (by omega), ec]
      dsimp only
      rw [if_neg (by omega)]
      obtain ⟨m9, e9⟩ := hr 0
      rw [e9]
    refine sp_ar hb hmck hT (by omega) hkn (sf_ty hmck.1 hmck.2.1 hmck.2.2 hkn hmod) hlt (by omega) hcl.1 hand (c - 48) 0 p1 T J K (by omega) hr h1 j35 (fun T2 J2 K2 hf2 hg2 h2 => ?_)
    have hl2 := lkS_of hl1 hf2 (fun j hj => by simp only [List.mem_cons, List.not_mem_nil, or_false] at hj; omega) hg2 h2 (by decide) (by decide) (by decide) (by decide) (by decide)
    have hf02 := fr_trans hf01 hf2
    have hg02 : gf [21, 22, 24, 29, 33, 35, 36, 57] I J2 := gf_trans hg01 (gf_mono hg2 (fun j hj => by simp only [List.mem_cons, List.not_mem_nil, or_false] at hj ⊢; omega))
    iterate 2 refine wp_step rfl rfl ?_
    refine wp_icmp rfl (fun c1 => ?_) (fun c1 => ?_)
    · replace c1 := n_ge_t (a := c - 48) (b := len) (by omega) (by omega) c1
      omega
    · replace c1 := n_ge_f (a := c - 48) (b := len) (by omega) (by omega) c1
      iterate 2 refine wp_step rfl rfl ?_
      refine wp_getg rfl h2.1.1 (by decide) rfl ?_
      refine wp_step rfl rfl ?_
      refine wp_getg (v := (.int (nI fl))) rfl h2.1.1 (by decide) (congrArg Value.int ((hg2 35 (by decide)).trans j35)) ?_
      iterate 2 refine wp_step rfl rfl ?_
      rw [hand]
      refine wp_c0 rfl rfl (by decide) rfl (recv_ok h2.1.1 rfl) rfl (q_mcome (w := (ty, fl % 2, p2)) hb hR hl2 ⟨hrd2, by show fl % 2 ≤ 3; omega, hg.2.2.1, h2.1.2.2.2.2.2.2.2.1, Or.inl hkn⟩ h2.1.2.2.2.1 (fun T3 J3 st3 li3 K3 hf3 hg3 hl3 hs3 => ?_))
      iterate 2 refine wp_step rfl rfl ?_
      refine wp_vret rfl rfl (hq T3 J3 st3 li3 K3 (fr_trans hf02 hf3) (gf_trans hg02 hg3) hl3 (by unfold stR; dsimp only; rw [hsE2]; exact hs3))
  · have hsE2 : stR ck.2.2.1 b tot ck.2.2.2 c (some (ty, fl, p)) = none := by
      unfold stR
      dsimp only
      unfold stp
      rw [if_pos hfl, if_neg (by omega), ec]
      dsimp only
      rw [if_pos (by omega)]
      rfl
    rw [hsE2] at hq
    iterate 2 refine wp_step rfl rfl ?_
    refine wp_icmp rfl (fun c0 => ?_) (fun c0 => ?_)
    · replace c0 := n_ge_t (a := 0) (b := c - 48) (by omega) (by omega) c0
      iterate 2 refine wp_step rfl rfl ?_
      refine wp_icmp rfl (fun c1 => ?_) (fun c1 => ?_)
      · replace c1 := n_ge_t (a := c - 48) (b := len) (by omega) (by omega) c1
        iterate 2 refine wp_step rfl rfl ?_
        refine wp_putg rfl h1.1.1 (by decide) rfl rfl ?_
        rw [mkG_i rfl]
        have h_Sx7 : am_get (am_upd T 408 (moC (upd J 36 (Int32.ofInt 0)) (lN ty) li)) 408 = some (moC (upd J 36 (Int32.ofInt 0)) (lN ty) li) := am_get_self h1.1.1
        have hf_Sx7 : fr [408] T (am_upd T 408 (moC (upd J 36 (Int32.ofInt 0)) (lN ty) li)) := fr_up (by simp)
        generalize am_upd T 408 (moC (upd J 36 (Int32.ofInt 0)) (lN ty) li) = Sx7 at h_Sx7 hf_Sx7 ⊢
        refine wp_step rfl rfl ?_
        have hg_J7 : gf [36] J (upd J 36 (Int32.ofInt 0)) := gf_up (gf_refl _ _) (by simp)
        have J7_36 : (upd J 36 (Int32.ofInt 0)) 36 = 0 := pk_us
        have a_J7 := h_Sx7
        have hf_J7 := hf_Sx7
        clear h_Sx7 hf_Sx7
        generalize upd J 36 (Int32.ofInt 0) = J7 at a_J7 hg_J7 J7_36
        refine wp_vret rfl rfl (hq Sx7 J7 _ li K (fr_trans hf01 (fr_mono hf_J7 (fun j hj => by simp only [List.mem_cons, List.not_mem_nil, or_false] at hj ⊢; omega))) (gf_trans hg01 (gf_mono hg_J7 (fun j hj => by simp only [List.mem_cons, List.not_mem_nil, or_false] at hj ⊢; omega))) (lkS_1 (st' := (lN ty)) (li' := li) hl1 hf_J7 a_J7 hg_J7 (by decide) (by decide) (by decide) (by decide) (by decide)) (J7_36))
      · replace c1 := n_ge_f (a := c - 48) (b := len) (by omega) (by omega) c1
        omega
    · replace c0 := n_ge_f (a := 0) (b := c - 48) (by omega) (by omega) c0
      iterate 2 refine wp_step rfl rfl ?_
      refine wp_icmp rfl (fun c2 => ?_) (fun c2 => ?_)
      · replace c2 := n_ge_t (a := c - 48) (b := len) (by omega) (by omega) c2
        iterate 2 refine wp_step rfl rfl ?_
        refine wp_icmp rfl (fun c1 => ?_) (fun c1 => ?_)
        · replace c1 := n_ge_t (a := c - 48) (b := len) (by omega) (by omega) c1
          iterate 2 refine wp_step rfl rfl ?_
          refine wp_putg rfl h1.1.1 (by decide) rfl rfl ?_
          rw [mkG_i rfl]
          have h_Sx8 : am_get (am_upd T 408 (moC (upd J 36 (Int32.ofInt 0)) (lN ty) li)) 408 = some (moC (upd J 36 (Int32.ofInt 0)) (lN ty) li) := am_get_self h1.1.1
          have hf_Sx8 : fr [408] T (am_upd T 408 (moC (upd J 36 (Int32.ofInt 0)) (lN ty) li)) := fr_up (by simp)
          generalize am_upd T 408 (moC (upd J 36 (Int32.ofInt 0)) (lN ty) li) = Sx8 at h_Sx8 hf_Sx8 ⊢
          refine wp_step rfl rfl ?_
          have hg_J7 : gf [36] J (upd J 36 (Int32.ofInt 0)) := gf_up (gf_refl _ _) (by simp)
          have J7_36 : (upd J 36 (Int32.ofInt 0)) 36 = 0 := pk_us
          have a_J7 := h_Sx8
          have hf_J7 := hf_Sx8
          clear h_Sx8 hf_Sx8
          generalize upd J 36 (Int32.ofInt 0) = J7 at a_J7 hg_J7 J7_36
          refine wp_vret rfl rfl (hq Sx8 J7 _ li K (fr_trans hf01 (fr_mono hf_J7 (fun j hj => by simp only [List.mem_cons, List.not_mem_nil, or_false] at hj ⊢; omega))) (gf_trans hg01 (gf_mono hg_J7 (fun j hj => by simp only [List.mem_cons, List.not_mem_nil, or_false] at hj ⊢; omega))) (lkS_1 (st' := (lN ty)) (li' := li) hl1 hf_J7 a_J7 hg_J7 (by decide) (by decide) (by decide) (by decide) (by decide)) (J7_36))
        · replace c1 := n_ge_f (a := c - 48) (b := len) (by omega) (by omega) c1
          omega
      · replace c2 := n_ge_f (a := c - 48) (b := len) (by omega) (by omega) c2
        omega
set_option maxHeartbeats 2000000 in
theorem q_mstep {S : am_S} {I : Nat → Int32} {st li : Int64} {K : jMK} {c : Nat} {o : Option jV} (hb : ∀ j, b j < 256) (hR : reQ b tot re) (h : lkS S I st li b v tot re M E C K ci ck) (hs : spO ck.2.2.1 b tot I st o) (hc : c < 256) (hq : ∀ T J st' li' K', fr [408, 425, 426, 427] S T → gf [21, 22, 24, 29, 33, 35, 36, 57] I J → lkS T J st' li' b v tot re M E C K' ci ck → spR ck.2.2.1 b tot J st' (stR ck.2.2.1 b tot ck.2.2.2 c o) → Q (.inl none, T)) : ev X (d + 12) 135 [.ref 408, .int (nI c)] S Q := by
  refine ev_wp (L0 := [some (.ref 408), some (.int (nI c)), none, none, none]) (Nat.le_of_ble_eq_true rfl) rfl ?_
  obtain ⟨hci, hv, htot, hT, hmck, hC⟩ := lkS_sl h
  have hmz := h.1.2.2.2.2.1
  cases o with
  | none =>
    iterate 2 refine wp_step rfl rfl ?_
    refine wp_getg (v := (.int (I 33))) rfl h.1.1 (by decide) (congrArg Value.int rfl) ?_
    refine wp_putg rfl h.1.1 (by decide) rfl rfl ?_
    rw [mkG_i rfl]
    have h_Sx9 : am_get (am_upd S 408 (moC (upd I 21 (I 33)) st li)) 408 = some (moC (upd I 21 (I 33)) st li) := am_get_self h.1.1
    have hf_Sx9 : fr [408] S (am_upd S 408 (moC (upd I 21 (I 33)) st li)) := fr_up (by simp)
    generalize am_upd S 408 (moC (upd I 21 (I 33)) st li) = Sx9 at h_Sx9 hf_Sx9 ⊢
    obtain ⟨sz, hz1, hz2⟩ := mSz_fr hmz hf_Sx9 (by decide)
    iterate 2 refine wp_step rfl rfl ?_
    refine wp_getg rfl h_Sx9 (by decide) rfl ?_
    refine wp_step rfl rfl ?_
    refine wp_getg (v := (.int (nI v))) rfl h_Sx9 (by decide) (congrArg Value.int ((pk_un (by decide)).trans (h.2.1))) ?_
    refine wp_ald rfl (Or.inl ⟨rfl, rfl⟩) (by decide) hz1 (am_in_nI (by omega) (by decide)) ?_
    rw [nI_clamp (by omega)]
    rw [hz2]
    refine wp_putg rfl h_Sx9 (by decide) rfl rfl ?_
    rw [mkG_i rfl]
    have h_Sx10 : am_get (am_upd Sx9 408 (moC (upd (upd I 21 (I 33)) 22 (nI tot)) st li)) 408 = some (moC (upd (upd I 21 (I 33)) 22 (nI tot)) st li) := am_get_self h_Sx9
    have hf_Sx10 : fr [408] S (am_upd Sx9 408 (moC (upd (upd I 21 (I 33)) 22 (nI tot)) st li)) := fr_trans hf_Sx9 (fr_up (by simp))
    generalize am_upd Sx9 408 (moC (upd (upd I 21 (I 33)) 22 (nI tot)) st li) = Sx10 at h_Sx10 hf_Sx10 ⊢
    clear h_Sx9 hf_Sx9
    have hg_I1 : gf [21, 22] I (upd (upd I 21 (I 33)) 22 (nI tot)) := gf_up (gf_up (gf_refl _ _) (by simp)) (by simp)
    have I1_21 : (upd (upd I 21 (I 33)) 22 (nI tot)) 21 = I 33 := (pk_un (by decide)).trans pk_us
    have I1_22 : (upd (upd I 21 (I 33)) 22 (nI tot)) 22 = nI tot := pk_us
    have a_I1 := h_Sx10
    have hf_I1 := hf_Sx10
    clear h_Sx10 hf_Sx10
    generalize upd (upd I 21 (I 33)) 22 (nI tot) = I1 at a_I1 hg_I1 I1_21 I1_22
    have hl_I1 := lkS_1 (st' := st) (li' := li) h hf_I1 a_I1 hg_I1 (by decide) (by decide) (by decide) (by decide) (by decide)
    have k36 : I1 36 = nI 1 := (hg_I1 36 (by decide)).trans hs
    refine wp_step rfl rfl ?_
    refine wp_getg (v := (.int (nI 1))) rfl a_I1 (by decide) (congrArg Value.int k36) ?_
    refine wp_step rfl rfl ?_
    refine wp_icmp_t rfl rfl ?_
    exact st_146 hl_I1 k36 (by decide) (by decide) (fun T J st2 li2 K2 g1 g2 g3 g4 => hq T J st2 li2 K2 (fr_trans (fr_mono hf_I1 (fun j hj => by simp only [List.mem_cons, List.not_mem_nil, or_false] at hj ⊢; omega)) g1) (gf_trans (gf_mono hg_I1 (fun j hj => by simp only [List.mem_cons, List.not_mem_nil, or_false] at hj ⊢; omega)) g2) g3 g4)
  | some w =>
    obtain ⟨ty, fl, p⟩ := w
    obtain ⟨k36, kn13, k33, k35, hst, hg⟩ := hs
    dsimp only at k33 k35 hst
    subst hst
    have hp960 : p ≤ 960 := hg.2.2.2.1
    have hty : ty < 2 ^ 31 := hg.2.2.1
    iterate 2 refine wp_step rfl rfl ?_
    refine wp_getg (v := (.int (nI p))) rfl h.1.1 (by decide) (congrArg Value.int k33) ?_
    refine wp_putg rfl h.1.1 (by decide) rfl rfl ?_
    rw [mkG_i rfl]
    have h_Sx11 : am_get (am_upd S 408 (moC (upd I 21 (nI p)) (lN ty) li)) 408 = some (moC (upd I 21 (nI p)) (lN ty) li) := am_get_self h.1.1
    have hf_Sx11 : fr [408] S (am_upd S 408 (moC (upd I 21 (nI p)) (lN ty) li)) := fr_up (by simp)
    generalize am_upd S 408 (moC (upd I 21 (nI p)) (lN ty) li) = Sx11 at h_Sx11 hf_Sx11 ⊢
    obtain ⟨sz, hz1, hz2⟩ := mSz_fr hmz hf_Sx11 (by decide)
    iterate 2 refine wp_step rfl rfl ?_
    refine wp_getg rfl h_Sx11 (by decide) rfl ?_
    refine wp_step rfl rfl ?_
    refine wp_getg (v := (.int (nI v))) rfl h_Sx11 (by decide) (congrArg Value.int ((pk_un (by decide)).trans (h.2.1))) ?_
    refine wp_ald rfl (Or.inl ⟨rfl, rfl⟩) (by decide) hz1 (am_in_nI (by omega) (by decide)) ?_
    rw [nI_clamp (by omega)]
    rw [hz2]
    refine wp_putg rfl h_Sx11 (by decide) rfl rfl ?_
    rw [mkG_i rfl]
    have h_Sx12 : am_get (am_upd Sx11 408 (moC (upd (upd I 21 (nI p)) 22 (nI tot)) (lN ty) li)) 408 = some (moC (upd (upd I 21 (nI p)) 22 (nI tot)) (lN ty) li) := am_get_self h_Sx11
    have hf_Sx12 : fr [408] S (am_upd Sx11 408 (moC (upd (upd I 21 (nI p)) 22 (nI tot)) (lN ty) li)) := fr_trans hf_Sx11 (fr_up (by simp))
    generalize am_upd Sx11 408 (moC (upd (upd I 21 (nI p)) 22 (nI tot)) (lN ty) li) = Sx12 at h_Sx12 hf_Sx12 ⊢
    clear h_Sx11 hf_Sx11
    have hg_I1 : gf [21, 22] I (upd (upd I 21 (nI p)) 22 (nI tot)) := gf_up (gf_up (gf_refl _ _) (by simp)) (by simp)
    have I1_21 : (upd (upd I 21 (nI p)) 22 (nI tot)) 21 = nI p := (pk_un (by decide)).trans pk_us
    have I1_22 : (upd (upd I 21 (nI p)) 22 (nI tot)) 22 = nI tot := pk_us
    have a_I1 := h_Sx12
    have hf_I1 := hf_Sx12
    clear h_Sx12 hf_Sx12
    generalize upd (upd I 21 (nI p)) 22 (nI tot) = I1 at a_I1 hg_I1 I1_21 I1_22
    have hl_I1 := lkS_1 (st' := (lN ty)) (li' := li) h hf_I1 a_I1 hg_I1 (by decide) (by decide) (by decide) (by decide) (by decide)
    have hw_I1 := lkS_wk hl_I1 I1_21 I1_22 hp960 htot
    have j36 : I1 36 = nI (kdOf b (ty, fl, p)) := (hg_I1 36 (by decide)).trans k36
    have j35 : I1 35 = nI fl := (hg_I1 35 (by decide)).trans k35
    have hq1 : ∀ T J st' li' K', fr [408, 425, 426, 427] Sx12 T → gf [21, 22, 24, 29, 33, 35, 36, 57] I1 J → lkS T J st' li' b v tot re M E C K' ci ck → spR ck.2.2.1 b tot J st' (stR ck.2.2.1 b tot ck.2.2.2 c (some (ty, fl, p))) → Q (.inl none, T) := fun T J st2 li2 K2 g1 g2 g3 g4 => hq T J st2 li2 K2 (fr_trans (fr_mono hf_I1 (fun j hj => by simp only [List.mem_cons, List.not_mem_nil, or_false] at hj ⊢; omega)) g1) (gf_trans (gf_mono hg_I1 (fun j hj => by simp only [List.mem_cons, List.not_mem_nil, or_false] at hj ⊢; omega)) g2) g3 g4
    have hk14 : kdOf b (ty, fl, p) < 14 := by
      unfold kdOf
      dsimp only
      split
      · omega
      · split
        · omega
        · split
          · split
            · omega
            · split <;> omega
          · split <;> omega
    refine wp_step rfl rfl ?_
    refine wp_getg (v := (.int (nI (kdOf b (ty, fl, p))))) rfl a_I1 (by decide) (congrArg Value.int j36) ?_
    refine wp_step rfl rfl ?_
    refine wp_icmp rfl (fun c0 => ?_) (fun c0 => ?_)
    · replace c0 := n_ne_t (a := kdOf b (ty, fl, p)) (b := 11) (by omega) (by omega) c0
      by_cases hfl : 2 ≤ fl
      · have e12 : kdOf b (ty, fl, p) = 12 := by unfold kdOf; rw [if_pos hfl]
        rw [e12] at j36
        have hno : (c < 48 ∨ 57 < c) → stR ck.2.2.1 b tot ck.2.2.2 c (some (ty, fl, p)) = none := by
          intro hcc
          unfold stR
          dsimp only
          unfold stp
          rw [if_pos hfl, if_pos hcc]
          rfl
        refine wp_step rfl rfl ?_
        refine wp_getg (v := (.int (nI 12))) rfl a_I1 (by decide) (congrArg Value.int j36) ?_
        refine wp_step rfl rfl ?_
        refine wp_icmp_f rfl rfl ?_
        iterate 2 refine wp_step rfl rfl ?_
        refine wp_icmp rfl (fun c1 => ?_) (fun c1 => ?_)
        · replace c1 := n_lt_t (a := c) (b := 48) (by omega) (by omega) c1
          rw [hno (Or.inl c1)] at hq1
          exact st_241 hl_I1 hq1
        · replace c1 := n_lt_f (a := c) (b := 48) (by omega) (by omega) c1
          iterate 2 refine wp_step rfl rfl ?_
          refine wp_icmp rfl (fun c2 => ?_) (fun c2 => ?_)
          · replace c2 := n_gt_t (a := c) (b := 57) (by omega) (by omega) c2
            rw [hno (Or.inr c2)] at hq1
            exact st_241 hl_I1 hq1
          · replace c2 := n_gt_f (a := c) (b := 57) (by omega) (by omega) c2
            exact st_167 hb hR hl_I1 hw_I1 hg hfl ⟨by omega, by omega⟩ j35 hq1
      · have hno : stR ck.2.2.1 b tot ck.2.2.2 c (some (ty, fl, p)) = none := by
          have hn : ¬ (fl = 0 ∧ 10 < ty) := fun h9 => c0 (by
            unfold kdOf
            rw [if_neg hfl, if_neg (by dsimp only; omega), if_neg (by dsimp only; omega), if_neg (by dsimp only; omega)])
          unfold stR
          dsimp only
          unfold stp
          rw [if_neg hfl, if_neg hn]
          rfl
        rw [hno] at hq1
        have hn12 : kdOf b (ty, fl, p) ≠ 12 := by
          unfold kdOf
          rw [if_neg hfl]
          dsimp only
          split
          · omega
          · split
            · split
              · omega
              · split <;> omega
            · split <;> omega
        exact st_146 hl_I1 j36 hn12 (by omega) hq1
    · replace c0 := n_ne_f (a := kdOf b (ty, fl, p)) (b := 11) (by omega) (by omega) c0
      have hk11 : fl = 0 ∧ 10 < ty ∧ ¬ 2 ≤ fl := by
        have hn2 : ¬ 2 ≤ fl := fun h9 => by unfold kdOf at c0; rw [if_pos h9] at c0; omega
        have hn1 : ¬ fl = 1 := fun h9 => by unfold kdOf at c0; rw [if_neg hn2, if_pos h9] at c0; omega
        have hn10 : ¬ ty = 10 := fun h9 => by
          unfold kdOf at c0
          rw [if_neg hn2, if_neg hn1, if_pos h9] at c0
          dsimp only at c0
          split at c0
          · omega
          · split at c0 <;> omega
        have hn9 : ¬ ty < 10 := fun h9 => by unfold kdOf at c0; rw [if_neg hn2, if_neg hn1, if_neg hn10, if_pos h9] at c0; dsimp only at c0; omega
        exact ⟨by omega, by omega, hn2⟩
      obtain ⟨rfl, h10, _⟩ := hk11
      obtain ⟨t, ht⟩ : ∃ t, tix ck.2.2.1 ty = some t := by
        rcases hg.2.2.2.2 with g | ⟨_, t, x, g, _⟩
        · rcases g with g | ⟨_, _, t, x, g, _⟩
          · dsimp only at g; omega
          · exact ⟨t, g⟩
        · exact ⟨t, g⟩
      rw [c0] at j36
      have hno : (c < 97 ∨ 122 < c) → stR ck.2.2.1 b tot ck.2.2.2 c (some (ty, 0, p)) = none := by
        intro hcc
        unfold stR
        dsimp only
        unfold stp
        rw [if_neg (show ¬ 2 ≤ 0 by decide), if_pos ⟨rfl, h10⟩, ht]
        dsimp only
        cases hx : ck.2.2.1[t]? with
        | none => rfl
        | some x =>
          dsimp only
          cases ef : fdx x.2.2.2 c with
          | none => rfl
          | some f =>
            obtain ⟨_, hfl9, hfy, _⟩ := fsti_some ef
            have h6 := of_decide_eq_true hfy
            have hfl8 : f < x.2.2.2.length := by omega
            rw [List.getElem?_eq_getElem hfl8] at h6
            have hok := (wf_ty hmck.1 hx).1
            unfold tyOK at hok
            have := hok.2.2.2.2.2.2 _ (List.getElem_mem hfl8)
            unfold fdOK at this
            simp at h6
            omega
      iterate 2 refine wp_step rfl rfl ?_
      refine wp_icmp rfl (fun c1 => ?_) (fun c1 => ?_)
      · replace c1 := n_lt_t (a := c) (b := 97) (by omega) (by omega) c1
        rw [hno (Or.inl c1)] at hq1
        exact st_146 hl_I1 j36 (by decide) (by decide) hq1
      · replace c1 := n_lt_f (a := c) (b := 97) (by omega) (by omega) c1
        iterate 2 refine wp_step rfl rfl ?_
        refine wp_icmp rfl (fun c2 => ?_) (fun c2 => ?_)
        · replace c2 := n_gt_t (a := c) (b := 122) (by omega) (by omega) c2
          rw [hno (Or.inr c2)] at hq1
          exact st_146 hl_I1 j36 (by decide) (by decide) hq1
        · replace c2 := n_gt_f (a := c) (b := 122) (by omega) (by omega) c2
          exact st_42 hb hR hl_I1 hw_I1 hg h10 hty ht hc j36 hq1
end MSTEP
