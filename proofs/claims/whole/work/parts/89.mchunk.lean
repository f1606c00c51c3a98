/-! THE MODEL: a chunk -/
abbrev jMC : Type := (Nat → Int32) × (Nat → Int32)
def mCA (S : am_S) (C : jMC) : Prop := am_get S 412 = some (iA 2 C.1) ∧ am_get S 413 = some (iA 8 C.2)
theorem mCA_fr {js : List Nat} {S T : am_S} {C : jMC} (h : mCA S C) (hf : fr js S T) (hj : ∀ j, j ∈ js → j < 412 ∨ 414 ≤ j) : mCA T C :=
  ⟨by rw [fr_get hf (fun g => by have := hj _ g; omega)]; exact h.1, by rw [fr_get hf (fun g => by have := hj _ g; omega)]; exact h.2⟩
def mCs (C : jMC) (w : Nat) (cks : List jCk) : Prop := C.1 w = nI cks.length ∧ ∀ (i : Nat) (y : jCk), cks[i]? = some y → C.2 (4 * w + i) = nI y.1
def mCo (C C' : jMC) (w : Nat) : Prop := (∀ j, j ≠ w → C'.1 j = C.1 j) ∧ ∀ j, j < 4 * w ∨ 4 * w + 4 ≤ j → C'.2 j = C.2 j
theorem mCo_refl (C : jMC) (w : Nat) : mCo C C w := ⟨fun _ _ => rfl, fun _ _ => rfl⟩
theorem mCo_trans {C C' C'' : jMC} {w : Nat} (h : mCo C C' w) (h' : mCo C' C'' w) : mCo C C'' w := ⟨fun j hj => (h'.1 j hj).trans (h.1 j hj), fun j hj => (h'.2 j hj).trans (h.2 j hj)⟩
theorem mCs_add {C : jMC} {w : Nat} {cks : List jCk} {y : jCk} (h : mCs C w cks) : mCs (upd C.1 w (nI (cks.length + 1)), upd C.2 (4 * w + cks.length) (nI y.1)) w (cks ++ [y]) := by
  refine ⟨?_, ?_⟩
  · show upd C.1 w (nI (cks.length + 1)) w = _
    rw [pk_us]; simp
  · intro i z hz
    by_cases hi : i < cks.length
    · rw [List.getElem?_append_left hi] at hz
      exact (pk_un (by omega)).trans (h.2 i z hz)
    · have hlt := (List.getElem?_eq_some_iff.mp hz).1
      have e9 : i = cks.length := by simp at hlt; omega
      subst e9
      rw [List.getElem?_append_right (Nat.le_refl _)] at hz
      simp at hz
      subst hz
      exact pk_us
theorem mCo_add {C : jMC} {w n : Nat} {a c : Int32} (hn : n < 4) : mCo C (upd C.1 w a, upd C.2 (4 * w + n) c) w :=
  ⟨fun j hj => pk_un hj, fun j hj => pk_un (by omega)⟩
/-- the types of the other side stay -/
def mTw (M M' : jMT) (w : Nat) : Prop := ∀ (sl : Nat) (τ : jTT), (sl < 4 * w ∨ 4 * w + 4 ≤ sl) → wfT τ → mTy M sl τ → mTy M' sl τ
theorem mTw_refl (M : jMT) (w : Nat) : mTw M M w := fun _ _ _ _ h => h
theorem mTw_trans {M M' M'' : jMT} {w : Nat} (h : mTw M M' w) (h' : mTw M' M'' w) : mTw M M'' w := fun sl τ hs hw hm => h' sl τ hs hw (h sl τ hs hw hm)
theorem mTy_S {M M' : jMT} {sl sl' : Nat} {τ : jTT} (hm : mTy M sl' τ) (h : magS M M' sl) (hn : sl' ≠ sl) (hw : wfT τ) : mTy M' sl' τ :=
  mTy_magS hm h hn hw.1 (fun t x hx => by have := (wf_ty hw hx).1; unfold tyOK at this; omega)
theorem mTw_S {M M' : jMT} {w ci : Nat} (h : magS M M' (4 * w + ci)) (hci : ci < 4) : mTw M M' w := fun sl τ hs hw hm => mTy_S hm h (by omega) hw
def mckT (τ : jTT) : Prop := wfT τ ∧ fht τ ∧ nocyc τ
def mTs (M : jMT) (w : Nat) (cks : List jCk) : Prop := ∀ (i : Nat) (y : jCk), cks[i]? = some y → mTy M (4 * w + i) y.2.2.1 ∧ mckT y.2.2.1
section MCHUNK
variable {X : Nat × (Nat → Int32)} {d : Nat} {Q : am_R → Prop} {st : Int64} {b : Nat → Nat} {w s e tot : Nat}
theorem mx_161 {T : am_S} {J : Nat → Int32} {k : Int32} {pl : Nat} {li : Int64} {z3 : Int32} (hx : mX T J st li k pl) (hq : Q (.inl (some (.int (nI e))), T)) : wp X d 114 161 [some (.ref 408), some (.int (nI s)), some (.int (nI e)), some (.int z3), none, none, none, none, none] [] T Q := by
  iterate 6 refine wp_step rfl rfl ?_
  exact mx_170 hx hq
theorem mx_147 {T : am_S} {J : Nat → Int32} {k : Int32} {pl : Nat} {li : Int64} {z3 : Int32} (hx : mX T J st li k pl) (hq : Q (.inl (some (.int (nI e))), T)) : wp X d 114 147 [some (.ref 408), some (.int (nI s)), some (.int (nI e)), some (.int z3), none, none, none, none, none] [] T Q := by
  refine wp_step rfl rfl ?_
  refine wp_getg (v := (.int k)) rfl hx.1 (by decide) (congrArg Value.int hx.2.1) ?_
  refine wp_if_t rfl (c1_ne0 hx.2.2.1) ?_
  exact mx_161 hx hq
set_option maxHeartbeats 4000000 in
theorem q_mchunk {S : am_S} {I : Nat → Int32} {li : Int64} {K : jMK} {M : jMT} {E : jME} {C : jMC} {n : Nat} {evs : List jEv} {cks : List jCk} (hb : ∀ j, b j < 256) (h : am_get S 408 = some (moC I st li)) (hB : mBy S b w) (h19 : I 19 = nI w) (h25 : I 25 = 0) (hw : w ≤ 1) (hz : mSz S w tot) (ht : tot ≤ 960) (hs : s ≤ tot) (hK : mSk S K) (hV : mV I true n) (hM : mTa S M) (hE : mEA S E) (hEs : mEs E w evs) (h60 : evs.length ≤ 60) (hC : mCA S C) (hCs : mCs C w cks) (h4c : cks.length ≤ 4) (hTs : mTs M w cks)
    (hret : ∀ e' re' T J li' K' M' E' C', rdCk b tot s (n, evs, cks) = .inr (e', re') → fr [408, 412, 413, 414, 415, 416, 417, 418, 419, 420, 421, 422, 423, 424, 425, 426, 427] S T → gf [20, 21, 22, 24, 29, 57] I J → am_get T 408 = some (moC J st li') → mSk T K' → mV J true re'.1 → mTa T M' → mEA T E' → mEs E' w re'.2.1 → mEo E E' w → mCA T C' → mCs C' w re'.2.2 → mCo C C' w → mTw M M' w → mTs M' w re'.2.2 → re'.2.1.length ≤ 60 → re'.2.2.length ≤ 4 → Q (.inl (some (.int (nI e'))), T))
    (hbad : ∀ k pl z T J li' K' M' E' C', rdCk b tot s (n, evs, cks) = .inl (k, pl) → fr [408, 412, 413, 414, 415, 416, 417, 418, 419, 420, 421, 422, 423, 424, 425, 426, 427] S T → gf [20, 21, 22, 24, 25, 26, 29, 57] I J → mX T J st li' k pl → mSk T K' → mTa T M' → mEA T E' → mEo E E' w → mCA T C' → mCo C C' w → mTw M M' w → Q (.inl (some (.int (nI z))), T)) : ev X (d + 10) 114 [.ref 408, .int (nI s)] S Q := by
  refine ev_wp (L0 := [some (.ref 408), some (.int (nI s)), none, none, none, none, none, none, none]) (Nat.le_of_ble_eq_true rfl) rfl ?_
  refine wp_step rfl rfl ?_
  refine wp_getg rfl h (by decide) rfl ?_
  refine wp_step rfl rfl ?_
  refine wp_getg (v := (.int (nI w))) rfl h (by decide) (congrArg Value.int h19) ?_
  refine wp_ald rfl (Or.inl ⟨rfl, rfl⟩) (by decide) hC.1 (am_in_nI (by omega) (by decide)) ?_
  rw [nI_clamp (by omega)]
  rw [hCs.1]
  refine wp_step rfl rfl ?_
  refine wp_icmp rfl (fun c0 => ?_) (fun c0 => ?_)
  · replace c0 := n_ne_t (a := cks.length) (b := 4) (by omega) (by omega) c0
    refine wp_step rfl rfl ?_
    refine wp_getg (v := (.int 0)) rfl h (by decide) (congrArg Value.int h25) ?_
    refine wp_if_f rfl rfl ?_
    iterate 2 refine wp_step rfl rfl ?_
    refine wp_c0 rfl rfl (by decide) rfl (recv_ok h rfl) rfl (q_mheader hb h hB h19 h25 hw hz ht hs (fun z e1 => ?_) (fun k pl T2 J2 e1 hf2 hg2 h2 => ?_))
    · obtain ⟨hz0, hz20, hzt, _⟩ := rdH_ok e1
      have hci : cks.length < 4 := by omega
      have hw8 : w2 b (s + 8) < 65536 := fxN_lt hb 2
      refine wp_step rfl rfl ?_
      refine wp_getg (v := (.int 0)) rfl h (by decide) (congrArg Value.int h25) ?_
      refine wp_if_t rfl rfl ?_
      iterate 3 refine wp_step rfl rfl ?_
      refine wp_getg (v := (.int (nI w))) rfl h (by decide) (congrArg Value.int h19) ?_
      refine wp_step rfl rfl ?_
      rw [show Int32.ofInt 4 * nI w = nI (4 * w) from pk_mul 4 w]
      refine wp_step rfl rfl ?_
      refine wp_getg rfl h (by decide) rfl ?_
      refine wp_step rfl rfl ?_
      refine wp_getg (v := (.int (nI w))) rfl h (by decide) (congrArg Value.int h19) ?_
      refine wp_ald rfl (Or.inl ⟨rfl, rfl⟩) (by decide) hC.1 (am_in_nI (by omega) (by decide)) ?_
      rw [nI_clamp (by omega)]
      rw [hCs.1]
      refine wp_step rfl rfl ?_
      rw [nI_add]
      refine wp_putg rfl h (by decide) rfl rfl ?_
      rw [mkG_i rfl]
      show wp X (d + 9) 114 61 [some (.ref 408), some (.int (nI s)), none, none, none, none, none, none, none] [] (am_upd S 408 (moC (upd I 20 (nI (4 * w + cks.length))) st li)) Q
      have h1 : am_get (am_upd S 408 (moC (upd I 20 (nI (4 * w + cks.length))) st li)) 408 = some (moC (upd I 20 (nI (4 * w + cks.length))) st li) := am_get_self h
      have hf1 : fr [408] S (am_upd S 408 (moC (upd I 20 (nI (4 * w + cks.length))) st li)) := fr_up (by simp)
      have hg1 : gf [20] I (upd I 20 (nI (4 * w + cks.length))) := gf_up (gf_refl _ _) (by simp)
      have h201 : (upd I 20 (nI (4 * w + cks.length))) 20 = nI (4 * w + cks.length) := pk_us
      generalize am_upd S 408 (moC (upd I 20 (nI (4 * w + cks.length))) st li) = T1 at h1 hf1 ⊢
      generalize upd I 20 (nI (4 * w + cks.length)) = I1 at h1 hg1 h201
      have h191 : I1 19 = nI w := (hg1 19 (by decide)).trans h19
      have h251 : I1 25 = 0 := (hg1 25 (by decide)).trans h25
      have hC1 := mCA_fr hC hf1 (fun j hj => by simp only [List.mem_cons, List.not_mem_nil, or_false] at hj; omega)
      have hM1 := mTa_fr hM hf1 (fun j hj => by simp only [List.mem_cons, List.not_mem_nil, or_false] at hj; omega)
      refine wp_step rfl rfl ?_
      refine wp_getg rfl h1 (by decide) rfl ?_
      refine wp_step rfl rfl ?_
      refine wp_getg (v := (.int (nI (4 * w + cks.length)))) rfl h1 (by decide) (congrArg Value.int h201) ?_
      refine wp_step rfl rfl ?_
      refine wp_ast rfl (Or.inl ⟨rfl, rfl⟩) hC1.2 (am_in_nI (by omega) (by decide)) ?_
      rw [nI_clamp (by omega)]
      rw [show vp_nar (am_ty 0) (nI s) = nI s from rfl]
      show wp X (d + 9) 114 71 [some (.ref 408), some (.int (nI s)), none, none, none, none, none, none, none] [] (am_upd T1 413 (iA 8 (upd C.2 (4 * w + cks.length) (nI s)))) Q
      have h2 : am_get (am_upd T1 413 (iA 8 (upd C.2 (4 * w + cks.length) (nI s)))) 408 = some (moC I1 st li) := (am_get_ne (by decide)).trans h1
      have hf2 : fr [413] T1 (am_upd T1 413 (iA 8 (upd C.2 (4 * w + cks.length) (nI s)))) := fr_up (by simp)
      have hC2 : mCA (am_upd T1 413 (iA 8 (upd C.2 (4 * w + cks.length) (nI s)))) (C.1, upd C.2 (4 * w + cks.length) (nI s)) := ⟨(am_get_ne (by decide)).trans hC1.1, am_get_self hC1.2⟩
      generalize am_upd T1 413 (iA 8 (upd C.2 (4 * w + cks.length) (nI s))) = T2 at h2 hf2 hC2 ⊢
      refine wp_step rfl rfl ?_
      refine wp_getg rfl h2 (by decide) rfl ?_
      refine wp_step rfl rfl ?_
      refine wp_getg (v := (.int (nI w))) rfl h2 (by decide) (congrArg Value.int h191) ?_
      refine wp_step rfl rfl ?_
      refine wp_ald rfl (Or.inl ⟨rfl, rfl⟩) (by decide) hC2.1 (am_in_nI (by omega) (by decide)) ?_
      rw [nI_clamp (by omega)]
      dsimp only
      rw [hCs.1]
      iterate 2 refine wp_step rfl rfl ?_
      rw [show nI cks.length + Int32.ofInt 1 = nI (cks.length + 1) from nI_add cks.length 1]
      refine wp_ast rfl (Or.inl ⟨rfl, rfl⟩) hC2.1 (am_in_nI (by omega) (by decide)) ?_
      rw [nI_clamp (by omega)]
      rw [show vp_nar (am_ty 0) (nI (cks.length + 1)) = nI (cks.length + 1) from rfl]
      show wp X (d + 9) 114 84 [some (.ref 408), some (.int (nI s)), none, none, none, none, none, none, none] [] (am_upd T2 412 (iA 2 (upd C.1 w (nI (cks.length + 1))))) Q
      have h3 : am_get (am_upd T2 412 (iA 2 (upd C.1 w (nI (cks.length + 1))))) 408 = some (moC I1 st li) := (am_get_ne (by decide)).trans h2
      have hf3 : fr [412] T2 (am_upd T2 412 (iA 2 (upd C.1 w (nI (cks.length + 1))))) := fr_up (by simp)
      have hC3 : mCA (am_upd T2 412 (iA 2 (upd C.1 w (nI (cks.length + 1))))) (upd C.1 w (nI (cks.length + 1)), upd C.2 (4 * w + cks.length) (nI s)) := ⟨am_get_self hC2.1, (am_get_ne (by decide)).trans hC2.2⟩
      have hM3' := mTa_fr hM1 hf2 (fun j hj => by simp only [List.mem_cons, List.not_mem_nil, or_false] at hj; omega)
      generalize am_upd T2 412 (iA 2 (upd C.1 w (nI (cks.length + 1)))) = T3 at h3 hf3 hC3 ⊢
      have hM3 := mTa_fr hM3' hf3 (fun j hj => by simp only [List.mem_cons, List.not_mem_nil, or_false] at hj; omega)
      refine wp_step rfl rfl ?_
      refine wp_getg rfl h3 (by decide) rfl ?_
      refine wp_step rfl rfl ?_
      refine wp_getg (v := (.int (nI (4 * w + cks.length)))) rfl h3 (by decide) (congrArg Value.int h201) ?_
      refine wp_step rfl rfl ?_
      refine wp_ast rfl (Or.inl ⟨rfl, rfl⟩) hM3.1 (am_in_nI (by omega) (by decide)) ?_
      rw [nI_clamp (by omega)]
      rw [show vp_nar (am_ty 0) (Int32.ofInt 0) = Int32.ofInt 0 from rfl]
      show wp X (d + 9) 114 94 [some (.ref 408), some (.int (nI s)), none, none, none, none, none, none, none] [] (am_upd T3 417 (iA 8 (upd M.1 (4 * w + cks.length) (nI 0)))) Q
      have h4 : am_get (am_upd T3 417 (iA 8 (upd M.1 (4 * w + cks.length) (nI 0)))) 408 = some (moC I1 st li) := (am_get_ne (by decide)).trans h3
      have hf4 : fr [417] T3 (am_upd T3 417 (iA 8 (upd M.1 (4 * w + cks.length) (nI 0)))) := fr_up (by simp)
      have hM4 : mTa (am_upd T3 417 (iA 8 (upd M.1 (4 * w + cks.length) (nI 0)))) (upd M.1 (4 * w + cks.length) (nI 0), M.2.1, M.2.2.1, M.2.2.2.1, M.2.2.2.2.1, M.2.2.2.2.2.1, M.2.2.2.2.2.2.1, M.2.2.2.2.2.2.2) := mTa_417 hM3 _
      generalize am_upd T3 417 (iA 8 (upd M.1 (4 * w + cks.length) (nI 0))) = T4 at h4 hf4 hM4 ⊢
      have ha4 : magS M (upd M.1 (4 * w + cks.length) (nI 0), M.2.1, M.2.2.1, M.2.2.2.1, M.2.2.2.2.1, M.2.2.2.2.2.1, M.2.2.2.2.2.2.1, M.2.2.2.2.2.2.2) (4 * w + cks.length) := ⟨fun j hj => pk_un hj, fun _ _ => ⟨rfl, rfl, rfl, rfl⟩, fun _ _ => ⟨rfl, rfl, rfl⟩⟩
      have hT4 : mTy (upd M.1 (4 * w + cks.length) (nI 0), M.2.1, M.2.2.1, M.2.2.2.1, M.2.2.2.2.1, M.2.2.2.2.2.1, M.2.2.2.2.2.2.1, M.2.2.2.2.2.2.2) (4 * w + cks.length) [] := ⟨pk_us, fun t x hx => by simp at hx⟩
      generalize (upd M.1 (4 * w + cks.length) (nI 0), M.2.1, M.2.2.1, M.2.2.2.1, M.2.2.2.2.1, M.2.2.2.2.2.1, M.2.2.2.2.2.2.1, M.2.2.2.2.2.2.2) = M4 at hM4 ha4 hT4
      have hC4 := mCA_fr hC3 hf4 (fun j hj => by simp only [List.mem_cons, List.not_mem_nil, or_false] at hj; omega)
      have hCo4 : mCo C (upd C.1 w (nI (cks.length + 1)), upd C.2 (4 * w + cks.length) (nI s)) w := mCo_add hci
      have hCs4 : ∀ y : jCk, y.1 = s → mCs (upd C.1 w (nI (cks.length + 1)), upd C.2 (4 * w + cks.length) (nI s)) w (cks ++ [y]) := fun y hy => by rw [← hy]; exact mCs_add hCs
      generalize (upd C.1 w (nI (cks.length + 1)), upd C.2 (4 * w + cks.length) (nI s)) = C4 at hC4 hCo4 hCs4
      have hf04 : fr [408, 412, 413, 414, 415, 416, 417, 418, 419, 420, 421, 422, 423, 424, 425, 426, 427] S T4 := fr_trans (fr_mono hf1 (fun j hj => by simp only [List.mem_cons, List.not_mem_nil, or_false] at hj ⊢; omega)) (fr_trans (fr_mono hf2 (fun j hj => by simp only [List.mem_cons, List.not_mem_nil, or_false] at hj ⊢; omega)) (fr_trans (fr_mono hf3 (fun j hj => by simp only [List.mem_cons, List.not_mem_nil, or_false] at hj ⊢; omega)) (fr_mono hf4 (fun j hj => by simp only [List.mem_cons, List.not_mem_nil, or_false] at hj ⊢; omega))))
      have hB4 : mBy T4 b w := mBy_fr hB hf04 (by decide)
      have hK4 : mSk T4 K := mSk_fr (mSk_fr (mSk_fr (mSk_fr hK hf1 (fun j hj => by simp only [List.mem_cons, List.not_mem_nil, or_false] at hj; omega)) hf2 (fun j hj => by simp only [List.mem_cons, List.not_mem_nil, or_false] at hj; omega)) hf3 (fun j hj => by simp only [List.mem_cons, List.not_mem_nil, or_false] at hj; omega)) hf4 (fun j hj => by simp only [List.mem_cons, List.not_mem_nil, or_false] at hj; omega)
      have hE4 : mEA T4 E := mEA_fr (mEA_fr (mEA_fr (mEA_fr hE hf1 (fun j hj => by simp only [List.mem_cons, List.not_mem_nil, or_false] at hj; omega)) hf2 (fun j hj => by simp only [List.mem_cons, List.not_mem_nil, or_false] at hj; omega)) hf3 (fun j hj => by simp only [List.mem_cons, List.not_mem_nil, or_false] at hj; omega)) hf4 (fun j hj => by simp only [List.mem_cons, List.not_mem_nil, or_false] at hj; omega)
      have hV4 : mV I1 true n := mV_gf hV hg1 (by decide) (by decide)
      clear h1 h2 h3 hf1 hf2 hf3 hf4 hC1 hC2 hC3 hM1 hM3' hM3
      iterate 5 refine wp_step rfl rfl ?_
      rw [show nI s + (Int8.ofInt 6).toInt32 = nI (s + 6) from nI_add s 6]
      refine wp_c0 rfl rfl (by decide) rfl (recv_ok h4 rfl) rfl (q_mtwo hb h4 hB4 h191 hw (by omega) ?_)
      refine wp_step rfl rfl ?_
      rw [nI_add, ← hz0]
      iterate 5 refine wp_step rfl rfl ?_
      rw [show nI s + (Int8.ofInt 8).toInt32 = nI (s + 8) from nI_add s 8]
      refine wp_c0 rfl rfl (by decide) rfl (recv_ok h4 rfl) rfl (q_mtwo hb h4 hB4 h191 hw (by omega) ?_)
      refine wp_step rfl rfl ?_
      show wp X (d + 9) 114 114 [some (.ref 408), some (.int (nI s)), some (.int (nI (s + z))), some (.int (nI (w2 b (s + 8)))), none, none, none, none, none] [] T4 Q
      have bad1 : (w2 b (s + 8) < 20 ∨ s + z ≤ s + w2 b (s + 8)) → wp X (d + 9) 114 127 [some (.ref 408), some (.int (nI s)), some (.int (nI (s + z))), some (.int (nI (w2 b (s + 8)))), none, none, none, none, none] [] T4 Q := by
        intro hbd
        iterate 5 refine wp_step rfl rfl ?_
        rw [show nI s + (Int8.ofInt 8).toInt32 = nI (s + 8) from nI_add s 8]
        refine wp_c0 rfl rfl (by decide) rfl (recv_ok h4 rfl) rfl (q_mwrong h4 h251 (fun T5 hf5 h5 => ?_))
        refine wp_step rfl rfl ?_
        have hx5 : mX T5 (upd (upd I1 26 (nI (s + 8))) 25 (Int32.ofInt 3)) st li 3 (s + 8) := ⟨h5, pk_us, by decide, (pk_un (by decide)).trans pk_us⟩
        exact mx_147 hx5 (hbad 3 (s + 8) _ T5 _ _ K M4 E C4 (by rw [rdCk]; dsimp only; rw [if_neg c0, e1]; dsimp only; rw [rdM_e, if_pos hbd]) (fr_trans hf04 (fr_mono hf5 (fun j hj => by simp only [List.mem_cons, List.not_mem_nil, or_false] at hj ⊢; omega))) (gf_up (gf_up (gf_mono hg1 (fun j hj => by simp only [List.mem_cons, List.not_mem_nil, or_false] at hj ⊢; omega)) (by simp)) (by simp)) hx5 (mSk_fr hK4 hf5 (fun j hj => by simp only [List.mem_cons, List.not_mem_nil, or_false] at hj; omega)) (mTa_fr hM4 hf5 (fun j hj => by simp only [List.mem_cons, List.not_mem_nil, or_false] at hj; omega)) (mEA_fr hE4 hf5 (fun j hj => by simp only [List.mem_cons, List.not_mem_nil, or_false] at hj; omega)) (mEo_refl _ _) (mCA_fr hC4 hf5 (fun j hj => by simp only [List.mem_cons, List.not_mem_nil, or_false] at hj; omega)) hCo4 (mTw_S ha4 hci))
      iterate 2 refine wp_step rfl rfl ?_
      refine wp_icmp rfl (fun c1 => ?_) (fun c1 => ?_)
      · replace c1 := n_lt_t (a := w2 b (s + 8)) (b := 20) (by omega) (by omega) c1
        exact bad1 (Or.inl c1)
      · replace c1 := n_lt_f (a := w2 b (s + 8)) (b := 20) (by omega) (by omega) c1
        iterate 4 refine wp_step rfl rfl ?_
        rw [pk_sub (by omega)]
        refine wp_icmp rfl (fun c2 => ?_) (fun c2 => ?_)
        · replace c2 := n_lt_t (a := w2 b (s + 8)) (b := s + z - s) (by omega) (by omega) c2
          clear bad1
          have hok : ¬ (w2 b (s + 8) < 20 ∨ s + z ≤ s + w2 b (s + 8)) := by omega
          iterate 4 refine wp_step rfl rfl ?_
          rw [nI_add]
          refine wp_step rfl rfl ?_
          refine wp_c0 rfl rfl (by decide) rfl (recv_ok h4 rfl) rfl (q_mmeta (d := d + 3) hb h4 hB4 h191 h251 hw h201 (by omega) hM4 hT4 (by omega) (by omega) (fun τ p4 T5 J5 M5 li5 lim5 e5 hf5 hg5 h5 hM5 hT5 hwf ha5 => ?_) (fun k pl T5 J5 M5 li5 e5 hf5 hg5 h5 hM5 ha5 => ?_))
          · have hf05 : fr [408, 412, 413, 414, 415, 416, 417, 418, 419, 420, 421, 422, 423, 424, 425, 426, 427] S T5 := fr_trans hf04 (fr_mono hf5 (fun j hj => by simp only [List.mem_cons, List.not_mem_nil, or_false] at hj ⊢; omega))
            have hg05 : gf [20, 21, 22, 24, 29, 57] I J5 := gf_trans (gf_mono hg1 (fun j hj => by simp only [List.mem_cons, List.not_mem_nil, or_false] at hj ⊢; omega)) (gf_mono hg5 (fun j hj => by simp only [List.mem_cons, List.not_mem_nil, or_false] at hj ⊢; omega))
            have hK5 := mSk_fr hK4 hf5 (fun j hj => by simp only [List.mem_cons, List.not_mem_nil, or_false] at hj; omega)
            have hE5 := mEA_fr hE4 hf5 (fun j hj => by simp only [List.mem_cons, List.not_mem_nil, or_false] at hj; omega)
            have hC5 := mCA_fr hC4 hf5 (fun j hj => by simp only [List.mem_cons, List.not_mem_nil, or_false] at hj; omega)
            have ha05 := magS_trans ha4 ha5
            have hV5 := mV_gf hV4 hg5 (by decide) (by decide)
            have h205 : J5 20 = nI (4 * w + cks.length) := (hg5 20 (by decide)).trans h201
            clear hf5 hg5 hf04 hK4 hE4 hC4 h4 hB4 hM4 ha4 ha5 hT4 hg1 hV4
            refine wp_step rfl rfl ?_
            refine wp_getg (v := (.int 0)) rfl h5.1 (by decide) (congrArg Value.int h5.2.2.2.2.2.1) ?_
            refine wp_if_f rfl rfl ?_
            iterate 4 refine wp_step rfl rfl ?_
            rw [nI_add]
            refine wp_c0 rfl rfl (by decide) rfl (recv_ok h5.1 rfl) rfl (q_mstruct (d := d + 6) h5.1 h205 h5.2.2.2.2.2.1 hM5 hT5 (by omega) hwf (fun hfh hnc => ?_) (fun hnot T6 J6 hf6 hg6 h6 => ?_))
            · iterate 5 refine wp_step rfl rfl ?_
              rw [show nI s + (Int8.ofInt 20).toInt32 = nI (s + 20) from nI_add s 20]
              refine wp_step rfl rfl ?_
              show wp X (d + 9) 114 170 [some (.ref 408), some (.int (nI s)), some (.int (nI (s + z))), some (.int (nI (w2 b (s + 8)))), some (.int (nI ([] : List jK).length)), some (.int (nI (s + 20))), none, none, none] [] T5 Q
              refine me_loop (d := d) (ci := cks.length) hb hw (by omega) hwf hfh hnc hT5 hci 960 (s + 20) n [] [] evs T5 J5 _ K E none none none (by omega) (by omega) (by simp) h60 h5.1 h5.2.1 h5.2.2.1 h5.2.2.2.2.2.1 hK5 hV5 h205 hM5 hE5 hEs (fun n6 cps ks evs6 T6 J6 li6 K6 E6 e6 hf6 hg6 h6 hK6 hV6 hE6 hEs6 hEo6 h606 h406 z4 z5 x6 x7 x8 => ?_) (fun k pl T6 J6 li6 K6 E6 e6 hf6 hg6 h6 hK6 hE6 hEo6 => ?_)
              · have hf06 : fr [408, 412, 413, 414, 415, 416, 417, 418, 419, 420, 421, 422, 423, 424, 425, 426, 427] S T6 := fr_trans hf05 (fr_mono hf6 (fun j hj => by simp only [List.mem_cons, List.not_mem_nil, or_false] at hj ⊢; omega))
                have hg06 : gf [20, 21, 22, 24, 29, 57] I J6 := gf_trans hg05 (gf_mono hg6 (fun j hj => by simp only [List.mem_cons, List.not_mem_nil, or_false] at hj ⊢; omega))
                have hM6 := mTa_fr hM5 hf6 (fun j hj => by simp only [List.mem_cons, List.not_mem_nil, or_false] at hj; omega)
                have hC6 := mCA_fr hC5 hf6 (fun j hj => by simp only [List.mem_cons, List.not_mem_nil, or_false] at hj; omega)
                have h256 : J6 25 = 0 := (hg06 25 (by decide)).trans h25
                refine wp_step rfl rfl ?_
                refine wp_getg (v := (.int 0)) rfl h6 (by decide) (congrArg Value.int h256) ?_
                refine wp_if_f rfl rfl ?_
                iterate 3 refine wp_step rfl rfl ?_
                refine wp_c0 rfl rfl (by decide) rfl (recv_ok h6 rfl) rfl (q_mchain (d := d + 3) (ks := ks) hb hw (by omega) (by omega) (chW_of e6 (by omega)) h6 (mBy_fr hB hf06 (by decide)) ((hg06 19 (by decide)).trans h19) h256 (fun L T7 J7 li7 e7 hf7 hg7 h7 => ?_) (fun k pl T7 J7 li7 e7 hf7 hg7 h7 => ?_))
                · have hTs7 : mTs M5 w (cks ++ [(s, s + z, τ, L)]) := by
                    intro i yy hyy
                    by_cases hi : i < cks.length
                    · rw [List.getElem?_append_left hi] at hyy
                      obtain ⟨g1, g2⟩ := hTs i yy hyy
                      exact ⟨mTy_S g1 ha05 (by omega) g2.1, g2⟩
                    · have hlt := (List.getElem?_eq_some_iff.mp hyy).1
                      have e9 : i = cks.length := by simp at hlt; omega
                      subst e9
                      rw [List.getElem?_append_right (Nat.le_refl _)] at hyy
                      simp at hyy
                      subst hyy
                      exact ⟨hT5, hwf, hfh, hnc⟩
                  refine wp_step rfl rfl ?_
                  refine wp_iret rfl rfl rfl (hret (s + z) (n6, evs6, cks ++ [(s, s + z, τ, L)]) T7 J7 li7 K6 M5 E6 C4 (by rw [rdCk]; dsimp only; rw [if_neg c0, e1]; dsimp only; rw [rdM_e, if_neg hok, e5]; dsimp only; rw [if_pos ⟨hfh, hnc⟩, e6]; dsimp only; rw [show lnk b s cps ks = _ from e7]) (fr_trans hf06 (fr_mono hf7 (fun j hj => by simp only [List.mem_cons, List.not_mem_nil, or_false] at hj ⊢; omega))) (gf_trans hg06 (gf_mono hg7 (fun j hj => by simp only [List.mem_cons, List.not_mem_nil, or_false] at hj ⊢; omega))) h7 (mSk_fr hK6 hf7 (fun j hj => by simp only [List.mem_cons, List.not_mem_nil, or_false] at hj; omega)) (mV_gf hV6 hg7 (by decide) (by decide)) (mTa_fr hM6 hf7 (fun j hj => by simp only [List.mem_cons, List.not_mem_nil, or_false] at hj; omega)) (mEA_fr hE6 hf7 (fun j hj => by simp only [List.mem_cons, List.not_mem_nil, or_false] at hj; omega)) hEs6 hEo6 (mCA_fr hC6 hf7 (fun j hj => by simp only [List.mem_cons, List.not_mem_nil, or_false] at hj; omega)) (hCs4 _ rfl) hCo4 (mTw_S ha05 hci) hTs7 h606 (by show (cks ++ [(s, s + z, τ, L)]).length ≤ 4; rw [List.length_append]; show cks.length + 1 ≤ 4; omega))
                · refine wp_step rfl rfl ?_
                  refine wp_iret rfl rfl rfl (hbad k pl _ T7 J7 li7 K6 M5 E6 C4 (by rw [rdCk]; dsimp only; rw [if_neg c0, e1]; dsimp only; rw [rdM_e, if_neg hok, e5]; dsimp only; rw [if_pos ⟨hfh, hnc⟩, e6]; dsimp only; rw [show lnk b s cps ks = _ from e7]) (fr_trans hf06 (fr_mono hf7 (fun j hj => by simp only [List.mem_cons, List.not_mem_nil, or_false] at hj ⊢; omega))) (gf_trans (gf_mono hg06 (fun j hj => by simp only [List.mem_cons, List.not_mem_nil, or_false] at hj ⊢; omega)) (gf_mono hg7 (fun j hj => by simp only [List.mem_cons, List.not_mem_nil, or_false] at hj ⊢; omega))) h7 (mSk_fr hK6 hf7 (fun j hj => by simp only [List.mem_cons, List.not_mem_nil, or_false] at hj; omega)) (mTa_fr hM6 hf7 (fun j hj => by simp only [List.mem_cons, List.not_mem_nil, or_false] at hj; omega)) (mEA_fr hE6 hf7 (fun j hj => by simp only [List.mem_cons, List.not_mem_nil, or_false] at hj; omega)) hEo6 (mCA_fr hC6 hf7 (fun j hj => by simp only [List.mem_cons, List.not_mem_nil, or_false] at hj; omega)) hCo4 (mTw_S ha05 hci))
              · exact hbad k pl _ T6 J6 li6 K6 M5 E6 C4 (by rw [rdCk]; dsimp only; rw [if_neg c0, e1]; dsimp only; rw [rdM_e, if_neg hok, e5]; dsimp only; rw [if_pos ⟨hfh, hnc⟩, e6]) (fr_trans hf05 (fr_mono hf6 (fun j hj => by simp only [List.mem_cons, List.not_mem_nil, or_false] at hj ⊢; omega))) (gf_trans (gf_mono hg05 (fun j hj => by simp only [List.mem_cons, List.not_mem_nil, or_false] at hj ⊢; omega)) (gf_mono hg6 (fun j hj => by simp only [List.mem_cons, List.not_mem_nil, or_false] at hj ⊢; omega))) h6 hK6 (mTa_fr hM5 hf6 (fun j hj => by simp only [List.mem_cons, List.not_mem_nil, or_false] at hj; omega)) hE6 hEo6 (mCA_fr hC5 hf6 (fun j hj => by simp only [List.mem_cons, List.not_mem_nil, or_false] at hj; omega)) hCo4 (mTw_S ha05 hci)
            · exact mx_161 h6 (hbad 4 (s + w2 b (s + 8)) _ T6 J6 _ K M5 E C4 (by rw [rdCk]; dsimp only; rw [if_neg c0, e1]; dsimp only; rw [rdM_e, if_neg hok, e5]; dsimp only; rw [if_neg hnot]) (fr_trans hf05 (fr_mono hf6 (fun j hj => by simp only [List.mem_cons, List.not_mem_nil, or_false] at hj ⊢; omega))) (gf_trans (gf_mono hg05 (fun j hj => by simp only [List.mem_cons, List.not_mem_nil, or_false] at hj ⊢; omega)) (gf_mono hg6 (fun j hj => by simp only [List.mem_cons, List.not_mem_nil, or_false] at hj ⊢; omega))) h6 (mSk_fr hK5 hf6 (fun j hj => by simp only [List.mem_cons, List.not_mem_nil, or_false] at hj; omega)) (mTa_fr hM5 hf6 (fun j hj => by simp only [List.mem_cons, List.not_mem_nil, or_false] at hj; omega)) (mEA_fr hE5 hf6 (fun j hj => by simp only [List.mem_cons, List.not_mem_nil, or_false] at hj; omega)) (mEo_refl _ _) (mCA_fr hC5 hf6 (fun j hj => by simp only [List.mem_cons, List.not_mem_nil, or_false] at hj; omega)) hCo4 (mTw_S ha05 hci))
          · exact mx_147 h5 (hbad k pl _ T5 J5 _ K M5 E C4 (by rw [rdCk]; dsimp only; rw [if_neg c0, e1]; dsimp only; rw [rdM_e, if_neg hok, e5]) (fr_trans hf04 (fr_mono hf5 (fun j hj => by simp only [List.mem_cons, List.not_mem_nil, or_false] at hj ⊢; omega))) (gf_trans (gf_mono hg1 (fun j hj => by simp only [List.mem_cons, List.not_mem_nil, or_false] at hj ⊢; omega)) (gf_mono hg5 (fun j hj => by simp only [List.mem_cons, List.not_mem_nil, or_false] at hj ⊢; omega))) h5 (mSk_fr hK4 hf5 (fun j hj => by simp only [List.mem_cons, List.not_mem_nil, or_false] at hj; omega)) hM5 (mEA_fr hE4 hf5 (fun j hj => by simp only [List.mem_cons, List.not_mem_nil, or_false] at hj; omega)) (mEo_refl _ _) (mCA_fr hC4 hf5 (fun j hj => by simp only [List.mem_cons, List.not_mem_nil, or_false] at hj; omega)) hCo4 (mTw_S (magS_trans ha4 ha5) hci))
        · replace c2 := n_lt_f (a := w2 b (s + 8)) (b := s + z - s) (by omega) (by omega) c2
          exact bad1 (Or.inr (by omega))
    · refine wp_step rfl rfl ?_
      refine wp_getg (v := (.int k)) rfl h2.1 (by decide) (congrArg Value.int h2.2.1) ?_
      refine wp_if_f rfl (c1_eq0 h2.2.2.1) ?_
      refine wp_step rfl rfl ?_
      refine wp_iret rfl rfl rfl (hbad k pl _ T2 _ _ K M E C (by rw [rdCk]; dsimp only; rw [if_neg c0, e1]) (fr_mono hf2 (fun j hj => by simp only [List.mem_cons, List.not_mem_nil, or_false] at hj ⊢; omega)) (gf_mono hg2 (fun j hj => by simp only [List.mem_cons, List.not_mem_nil, or_false] at hj ⊢; omega)) h2 (mSk_fr hK hf2 (fun j hj => by simp only [List.mem_cons, List.not_mem_nil, or_false] at hj; omega)) (mTa_fr hM hf2 (fun j hj => by simp only [List.mem_cons, List.not_mem_nil, or_false] at hj; omega)) (mEA_fr hE hf2 (fun j hj => by simp only [List.mem_cons, List.not_mem_nil, or_false] at hj; omega)) (mEo_refl _ _) (mCA_fr hC hf2 (fun j hj => by simp only [List.mem_cons, List.not_mem_nil, or_false] at hj; omega)) (mCo_refl _ _) (mTw_refl _ _))
  · replace c0 := n_ne_f (a := cks.length) (b := 4) (by omega) (by omega) c0
    iterate 3 refine wp_step rfl rfl ?_
    refine wp_c0 rfl rfl (by decide) rfl (recv_ok h rfl) rfl (q_mwrong h h25 (fun T2 hf2 h2 => ?_))
    refine wp_step rfl rfl ?_
    refine wp_getg (v := (.int 8)) rfl h2 (by decide) (congrArg Value.int pk_us) ?_
    refine wp_if_t rfl rfl ?_
    refine wp_step rfl rfl ?_
    refine wp_getg (v := (.int 8)) rfl h2 (by decide) (congrArg Value.int pk_us) ?_
    refine wp_if_f rfl rfl ?_
    refine wp_step rfl rfl ?_
    refine wp_iret rfl rfl rfl (hbad 8 s _ T2 _ _ K M E C (by rw [rdCk]; dsimp only; rw [if_pos c0]) (fr_mono hf2 (fun j hj => by simp only [List.mem_cons, List.not_mem_nil, or_false] at hj ⊢; omega)) (gf_up (gf_up (gf_refl _ _) (by simp)) (by simp)) ⟨h2, pk_us, by decide, (pk_un (by decide)).trans pk_us⟩ (mSk_fr hK hf2 (fun j hj => by simp only [List.mem_cons, List.not_mem_nil, or_false] at hj; omega)) (mTa_fr hM hf2 (fun j hj => by simp only [List.mem_cons, List.not_mem_nil, or_false] at hj; omega)) (mEA_fr hE hf2 (fun j hj => by simp only [List.mem_cons, List.not_mem_nil, or_false] at hj; omega)) (mEo_refl _ _) (mCA_fr hC hf2 (fun j hj => by simp only [List.mem_cons, List.not_mem_nil, or_false] at hj; omega)) (mCo_refl _ _) (mTw_refl _ _))
end MCHUNK
