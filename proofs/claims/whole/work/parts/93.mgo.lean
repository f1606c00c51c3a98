/-! THE MODEL: what it holds after an open; an event is gone to -/
theorem hd_mono {B : Nat → Int32} {s e e2 : Nat} {x : Nat × Nat × Nat × Nat} (h : hd B s e = .inr x) (he : e ≤ e2) (hs : s ≤ e) : hd B s e2 = .inr x := by
  unfold hd at h ⊢
  cases e1 : cnt B e s with
  | none => rw [e1] at h; cases h
  | some y =>
    obtain ⟨len, p1⟩ := y
    rw [e1] at h
    rw [cnt_mono e1 he]
    dsimp only at h ⊢
    split at h
    · cases h
    · rw [if_neg (by omega)]
      cases e3 : cnt B e p1 with
      | none => rw [e3] at h; cases h
      | some y2 =>
        obtain ⟨id, p2⟩ := y2
        rw [e3] at h
        rw [cnt_mono e3 he]
        exact h
/-- what is known of the events of a recording -/
def evP (b : Nat → Nat) (tot : Nat) (re : jRe) : Prop := ∀ (k : Nat) (y : jEv), re.2.1[k]? = some y → ∃ ck, re.2.2[y.1]? = some ck ∧ isKd ck.2.2.1 y.2.2.2.1 1 ∧ y.2.1 ≤ tot ∧ ∃ len p1 p2, hd (Bn b) y.2.1 tot = .inr (len, y.2.2.2.1, p1, p2) ∧ num9 (Bn b) (y.2.1 + len) p2 = some (y.2.2.1, y.2.2.2.2.1)
theorem evP_of {S : am_S} {b : Nat → Nat} {tot R l : Nat} {A : jVA} {E : jEA} {re : jRe} (h : reO S b tot R l A E re) : evP b tot re := by
  intro k y hy
  obtain ⟨τ, g1, g2, g3, e9, len, p1, p2, g4, g5, g6⟩ := h.2.2.2.2.1 y (mem_at hy)
  have hh := hd_ok g5
  rw [List.getElem?_map] at g1
  cases ec : re.2.2[y.1]? with
  | none => rw [ec] at g1; cases g1
  | some ck =>
    rw [ec] at g1
    cases g1
    exact ⟨ck, rfl, g3, by omega, len, p1, p2, hd_mono g5 g4 (by omega), g6⟩
/-- the model holds re -/
def mRc (S : am_S) (I : Nat → Int32) (st li : Int64) (b : Nat → Nat) (v tot : Nat) (re : jRe) (M : jMT) (E : jME) (C : jMC) (K : jMK) : Prop := am_get S 408 = some (moC I st li) ∧ I 3 = nI v ∧ v ≤ 1 ∧ mBy S b v ∧ mSz S v tot ∧ tot ≤ 960 ∧ I 25 = 0 ∧ I 23 = 0 ∧ mTa S M ∧ mTs M v re.2.2 ∧ mEA S E ∧ mEs E v re.2.1 ∧ re.2.1.length ≤ 60 ∧ mCA S C ∧ mCs C v re.2.2 ∧ re.2.2.length ≤ 4 ∧ mSk S K
theorem mRc_up {S T : am_S} {I J : Nat → Int32} {st li st' li' : Int64} {b : Nat → Nat} {v tot : Nat} {re : jRe} {M : jMT} {E : jME} {C : jMC} {K K' : jMK} {js ks : List Nat} (h : mRc S I st li b v tot re M E C K) (hf : fr js S T) (hj : ∀ j, j ∈ js → j < 410 ∨ 425 ≤ j) (hT : am_get T 408 = some (moC J st' li')) (hg : gf ks I J) (h3 : 3 ∉ ks) (h25 : 25 ∉ ks) (h23 : 23 ∉ ks) (hK : mSk T K') : mRc T J st' li' b v tot re M E C K' := by
  obtain ⟨a1, a2, a3, a4, a5, a6, a7, a8, a9, a10, a11, a12, a13, a14, a15, a16, a17⟩ := h
  exact ⟨hT, (hg 3 h3).trans a2, a3, mBy_fr a4 hf (fun g => by have := hj _ g; omega), mSz_fr a5 hf (fun g => by have := hj _ g; omega), a6, (hg 25 h25).trans a7, (hg 23 h23).trans a8, mTa_fr a9 hf (fun j g => by have := hj _ g; omega), a10, mEA_fr a11 hf (fun j g => by have := hj _ g; omega), a12, a13, mCA_fr a14 hf (fun j g => by have := hj _ g; omega), a15, a16, hK⟩
section MGO
variable {X : Nat × (Nat → Int32)} {d : Nat} {Q : am_R → Prop} {S : am_S} {I : Nat → Int32} {st li : Int64} {b : Nat → Nat} {v tot : Nat} {re : jRe} {M : jMT} {E : jME} {C : jMC} {K : jMK}
theorem q_misEv {e : Int32} (h : mRc S I st li b v tot re M E C K) (hyes : ∀ k, idx e re.2.1.length = some k → Q (.inl (some (.int 1)), S)) (hno : idx e re.2.1.length = none → Q (.inl (some (.int 0)), S)) : ev X (d + 1) 127 [.ref 408, .int e] S Q := by
  refine ev_wp (L0 := [some (.ref 408), some (.int e)]) (Nat.le_of_ble_eq_true rfl) rfl ?_
  obtain ⟨a1, a2, a3, a4, a5, a6, a7, a8, a9, a10, a11, a12, a13, a14, a15, a16, a17⟩ := h
  refine wp_step rfl rfl ?_
  refine wp_if rfl (fun c0 => ?_) (fun c0 => ?_)
  · replace c0 := q_lt_t c0
    refine wp_step rfl rfl ?_
    refine wp_iret rfl rfl rfl (hno (idx_neg c0))
  · replace c0 := q_lt_f c0
    iterate 2 refine wp_step rfl rfl ?_
    refine wp_getg rfl a1 (by decide) rfl ?_
    refine wp_step rfl rfl ?_
    refine wp_getg (v := (.int (nI v))) rfl a1 (by decide) (congrArg Value.int a2) ?_
    refine wp_ald rfl (Or.inl ⟨rfl, rfl⟩) (by decide) a11.1 (am_in_nI (by omega) (by decide)) ?_
    rw [nI_clamp (by omega)]
    rw [a12.1]
    refine wp_icmp rfl (fun c1 => ?_) (fun c1 => ?_)
    · replace c1 := i_ge_t c1
      refine wp_step rfl rfl ?_
      refine wp_iret rfl rfl rfl ?_
      cases ei : idx e re.2.1.length with
      | none => exact hno ei
      | some k =>
        obtain ⟨k1, k2⟩ := idx_some ei (by omega)
        rw [k1, Int32.le_iff_toInt_le, nI_toInt (by omega), nI_toInt (by omega)] at c1
        omega
    · replace c1 := i_ge_f c1
      iterate 2 refine wp_step rfl rfl ?_
      refine wp_iret rfl rfl rfl ?_
      cases ei : idx e re.2.1.length with
      | some k => exact hyes k ei
      | none =>
        unfold idx at ei
        split at ei
        · cases ei
        · rename_i g
          rw [Int32.le_iff_toInt_le, nI_toInt (by omega)] at c1
          rw [Int32.lt_iff_toInt_lt] at c0
          have c0' : ¬ e.toInt < 0 := c0
          omega
set_option maxHeartbeats 1000000 in
theorem q_mgo {k : Nat} {y : jEv} (hb : ∀ j, b j < 256) (h : mRc S I st li b v tot re M E C K) (hP : evP b tot re) (hy : re.2.1[k]? = some y)
    (hq : ∀ ck len p1 p2 T J, re.2.2[y.1]? = some ck → isKd ck.2.2.1 y.2.2.2.1 1 → hd (Bn b) y.2.1 tot = .inr (len, y.2.2.2.1, p1, p2) → num9 (Bn b) (y.2.1 + len) p2 = some (y.2.2.1, y.2.2.2.2.1) → fr [408] S T → gf [19, 20, 21, 22, 57] I J → J 20 = nI (4 * v + y.1) → J 57 = nI p1 → mR T J st (lN y.2.2.2.1) b v p2 (y.2.1 + len) → mRc T J st (lN y.2.2.2.1) b v tot re M E C K → Q (.inl none, T)) : ev X (d + 5) 128 [.ref 408, .int (nI k)] S Q := by
  refine ev_wp (L0 := [some (.ref 408), some (.int (nI k))]) (Nat.le_of_ble_eq_true rfl) rfl ?_
  obtain ⟨a1, a2, a3, a4, a5, a6, a7, a8, a9, a10, a11, a12, a13, a14, a15, a16, a17⟩ := id h
  have hk60 := (List.getElem?_eq_some_iff.mp hy).1
  obtain ⟨ck, hck, hkd, hpt, len, p1, p2, eh, en⟩ := hP k y hy
  have hck4 := (List.getElem?_eq_some_iff.mp hck).1
  obtain ⟨e1, e2⟩ := a12.2 k y hy
  iterate 2 refine wp_step rfl rfl ?_
  refine wp_getg (v := (.int (nI v))) rfl a1 (by decide) (congrArg Value.int a2) ?_
  refine wp_putg rfl a1 (by decide) rfl rfl ?_
  rw [mkG_i rfl]
  have h_S1 : am_get (am_upd S 408 (moC (upd I 19 (nI v)) st li)) 408 = some (moC (upd I 19 (nI v)) st li) := am_get_self a1
  have hf_S1 : fr [408] S (am_upd S 408 (moC (upd I 19 (nI v)) st li)) := fr_up (by simp)
  generalize am_upd S 408 (moC (upd I 19 (nI v)) st li) = S1 at h_S1 hf_S1 ⊢
  have hE1 := mEA_fr a11 hf_S1 (fun j hj => by simp only [List.mem_cons, List.not_mem_nil, or_false] at hj; omega)
  iterate 3 refine wp_step rfl rfl ?_
  refine wp_getg (v := (.int (nI v))) rfl h_S1 (by decide) (congrArg Value.int pk_us) ?_
  refine wp_step rfl rfl ?_
  rw [show Int32.ofInt 4 * nI v = nI (4 * v) from pk_mul 4 v]
  refine wp_step rfl rfl ?_
  refine wp_getg rfl h_S1 (by decide) rfl ?_
  iterate 2 refine wp_step rfl rfl ?_
  refine wp_getg (v := (.int (nI v))) rfl h_S1 (by decide) (congrArg Value.int pk_us) ?_
  refine wp_step rfl rfl ?_
  rw [show (Int8.ofInt 60).toInt32 * nI v = nI (60 * v) from pk_mul 60 v]
  iterate 2 refine wp_step rfl rfl ?_
  rw [nI_add]
  refine wp_ald rfl (Or.inl ⟨rfl, rfl⟩) (by decide) hE1.2.2 (am_in_nI (by omega) (by decide)) ?_
  rw [nI_clamp (by omega)]
  rw [e2]
  refine wp_step rfl rfl ?_
  rw [nI_add]
  refine wp_putg rfl h_S1 (by decide) rfl rfl ?_
  rw [mkG_i rfl]
  have h_S2 : am_get (am_upd S1 408 (moC (upd (upd I 19 (nI v)) 20 (nI (4 * v + y.1))) st li)) 408 = some (moC (upd (upd I 19 (nI v)) 20 (nI (4 * v + y.1))) st li) := am_get_self h_S1
  have hf_S2 : fr [408] S1 (am_upd S1 408 (moC (upd (upd I 19 (nI v)) 20 (nI (4 * v + y.1))) st li)) := fr_up (by simp)
  generalize am_upd S1 408 (moC (upd (upd I 19 (nI v)) 20 (nI (4 * v + y.1))) st li) = S2 at h_S2 hf_S2 ⊢
  have hf2 : fr [408] S S2 := fr_trans hf_S1 hf_S2
  have hE2 := mEA_fr a11 hf2 (fun j hj => by simp only [List.mem_cons, List.not_mem_nil, or_false] at hj; omega)
  have hg2 : gf [19, 20] I (upd (upd I 19 (nI v)) 20 (nI (4 * v + y.1))) := gf_up (gf_up (gf_refl _ _) (by simp)) (by simp)
  have k20 : (upd (upd I 19 (nI v)) 20 (nI (4 * v + y.1))) 20 = nI (4 * v + y.1) := pk_us
  have k19 : (upd (upd I 19 (nI v)) 20 (nI (4 * v + y.1))) 19 = nI v := (pk_un (by decide)).trans pk_us
  generalize upd (upd I 19 (nI v)) 20 (nI (4 * v + y.1)) = I2 at h_S2 hg2 k20 k19
  obtain ⟨sz, hz1, hz2⟩ := mSz_fr a5 hf2 (by decide)
  iterate 2 refine wp_step rfl rfl ?_
  refine wp_getg rfl h_S2 (by decide) rfl ?_
  iterate 2 refine wp_step rfl rfl ?_
  refine wp_getg (v := (.int (nI v))) rfl h_S2 (by decide) (congrArg Value.int k19) ?_
  refine wp_step rfl rfl ?_
  rw [show (Int8.ofInt 60).toInt32 * nI v = nI (60 * v) from pk_mul 60 v]
  iterate 2 refine wp_step rfl rfl ?_
  rw [nI_add]
  refine wp_ald rfl (Or.inl ⟨rfl, rfl⟩) (by decide) hE2.2.1 (am_in_nI (by omega) (by decide)) ?_
  rw [nI_clamp (by omega)]
  rw [e1]
  refine wp_step rfl rfl ?_
  refine wp_getg rfl h_S2 (by decide) rfl ?_
  refine wp_step rfl rfl ?_
  refine wp_getg (v := (.int (nI v))) rfl h_S2 (by decide) (congrArg Value.int k19) ?_
  refine wp_ald rfl (Or.inl ⟨rfl, rfl⟩) (by decide) hz1 (am_in_nI (by omega) (by decide)) ?_
  rw [nI_clamp (by omega)]
  rw [hz2]
  refine wp_c0 rfl rfl (by decide) rfl (recv_ok h_S2 rfl) rfl (q_mbegins hb h_S2 (mBy_fr a4 hf2 (by decide)) k19 ((hg2 25 (by decide)).trans a7) a3 hpt a6 (fun len2 id2 p12 p22 T J e9 hf9 hg9 h57 h9 => ?_) (fun k9 pl T J li2 e9 hf9 hg9 h9 hq9 => ?_))
  · rw [eh] at e9; cases e9
    refine wp_step rfl rfl ?_
    refine wp_vret rfl rfl (hq ck len p1 p2 T J hck hkd eh en (fr_trans hf2 hf9) (gf_trans (gf_mono hg2 (fun j hj => by simp only [List.mem_cons, List.not_mem_nil, or_false] at hj ⊢; omega)) (gf_mono hg9 (fun j hj => by simp only [List.mem_cons, List.not_mem_nil, or_false] at hj ⊢; omega))) ((hg9 20 (by decide)).trans k20) h57 h9 (mRc_up h (fr_trans hf2 hf9) (fun j hj => by simp only [List.mem_cons, List.not_mem_nil, or_false] at hj; omega) h9.1 (ks := [19, 20, 21, 22, 57]) (gf_trans (gf_mono hg2 (fun j hj => by simp only [List.mem_cons, List.not_mem_nil, or_false] at hj ⊢; omega)) (gf_mono hg9 (fun j hj => by simp only [List.mem_cons, List.not_mem_nil, or_false] at hj ⊢; omega))) (by decide) (by decide) (by decide) (mSk_fr (mSk_fr a17 hf2 (fun j hj => by simp only [List.mem_cons, List.not_mem_nil, or_false] at hj; omega)) hf9 (fun j hj => by simp only [List.mem_cons, List.not_mem_nil, or_false] at hj; omega))))
  · rw [eh] at e9; cases e9
end MGO
