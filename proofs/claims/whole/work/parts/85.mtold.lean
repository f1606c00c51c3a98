/-! THE MODEL: an event is told -/
abbrev jME : Type := (Nat → Int32) × (Nat → Int32) × (Nat → Int32)
def mEA (S : am_S) (E : jME) : Prop := am_get S 414 = some (iA 2 E.1) ∧ am_get S 415 = some (iA 120 E.2.1) ∧ am_get S 416 = some (iA 120 E.2.2)
theorem mEA_fr {js : List Nat} {S T : am_S} {E : jME} (h : mEA S E) (hf : fr js S T) (hj : ∀ j, j ∈ js → j < 414 ∨ 417 ≤ j) : mEA T E :=
  ⟨by rw [fr_get hf (fun g => by have := hj _ g; omega)]; exact h.1, by rw [fr_get hf (fun g => by have := hj _ g; omega)]; exact h.2.1, by rw [fr_get hf (fun g => by have := hj _ g; omega)]; exact h.2.2⟩
def mEs (E : jME) (w : Nat) (evs : List jEv) : Prop := E.1 w = nI evs.length ∧ ∀ (i : Nat) (y : jEv), evs[i]? = some y → E.2.1 (60 * w + i) = nI y.2.1 ∧ E.2.2 (60 * w + i) = nI y.1
def mEo (E E' : jME) (w : Nat) : Prop := (∀ j, j ≠ w → E'.1 j = E.1 j) ∧ ∀ j, j < 60 * w ∨ 60 * w + 60 ≤ j → E'.2.1 j = E.2.1 j ∧ E'.2.2 j = E.2.2 j
theorem mEo_refl (E : jME) (w : Nat) : mEo E E w := ⟨fun _ _ => rfl, fun _ _ => ⟨rfl, rfl⟩⟩
theorem mEo_trans {E E' E'' : jME} {w : Nat} (h : mEo E E' w) (h' : mEo E' E'' w) : mEo E E'' w := ⟨fun j hj => (h'.1 j hj).trans (h.1 j hj), fun j hj => ⟨(h'.2 j hj).1.trans (h.2 j hj).1, (h'.2 j hj).2.trans (h.2 j hj).2⟩⟩
theorem mEs_add {E : jME} {w : Nat} {evs : List jEv} {y : jEv} (h : mEs E w evs) : mEs (upd E.1 w (nI (evs.length + 1)), upd E.2.1 (60 * w + evs.length) (nI y.2.1), upd E.2.2 (60 * w + evs.length) (nI y.1)) w (evs ++ [y]) := by
  refine ⟨?_, ?_⟩
  · show upd E.1 w (nI (evs.length + 1)) w = _
    rw [pk_us]; simp
  · intro i z hz
    by_cases hi : i < evs.length
    · rw [List.getElem?_append_left hi] at hz
      have := h.2 i z hz
      exact ⟨(pk_un (by omega)).trans this.1, (pk_un (by omega)).trans this.2⟩
    · have hlt := (List.getElem?_eq_some_iff.mp hz).1
      have e9 : i = evs.length := by simp at hlt; omega
      subst e9
      rw [List.getElem?_append_right (Nat.le_refl _)] at hz
      simp at hz
      subst hz
      exact ⟨pk_us, pk_us⟩
theorem mEo_add {E : jME} {w n : Nat} {a c e : Int32} (hn : n < 60) : mEo E (upd E.1 w a, upd E.2.1 (60 * w + n) c, upd E.2.2 (60 * w + n) e) w :=
  ⟨fun j hj => pk_un hj, fun j hj => ⟨pk_un (by omega), pk_un (by omega)⟩⟩
section MTOLD
variable {X : Nat × (Nat → Int32)} {d : Nat} {Q : am_R → Prop} {st li : Int64} {b : Nat → Nat} {w lim ci : Nat} {τ : jTT} {M : jMT}
set_option maxHeartbeats 2000000 in
theorem q_mtold {S : am_S} {I : Nat → Int32} {K : jMK} {E : jME} {evs : List jEv} {p n q p1 id : Nat} (hb : ∀ j, b j < 256) (hwf : wfT τ) (hfh : fht τ) (hnc : nocyc τ) (hT : mTy M (4 * w + ci) τ) (hci : ci < 4) (hid : id < 2 ^ 31) (h60 : evs.length ≤ 60) (h : mR S I st li b w p lim) (hK : mSk S K) (hV : mV I true n) (h20 : I 20 = nI (4 * w + ci)) (h57 : I 57 = nI p1) (hM : mTa S M) (hE : mEA S E) (hEs : mEs E w evs)
    (hret : ∀ tk p3 p' n' T J K' E', rdV τ b lim p1 q p n evs.length id = .inr (tk, p3, p', n') → fr [408, 414, 415, 416, 425, 426, 427] S T → gf [21, 24, 29] I J → mR T J st li b w p' lim → mSk T K' → mV J true n' → mEA T E' → mEs E' w (evs ++ [(ci, q, tk, id, p3, n)]) → mEo E E' w → Q (.inl none, T))
    (hbad : ∀ k pl T J K' E', rdV τ b lim p1 q p n evs.length id = .inl (k, pl) → fr [408, 414, 415, 416, 425, 426, 427] S T → gf [21, 24, 25, 26, 29] I J → mX T J st li k pl → mSk T K' → mEA T E' → mEo E E' w → Q (.inl none, T)) : ev X (d + 8) 122 [.ref 408, .int (nI q), .long (lN id)] S Q := by
  refine ev_wp (L0 := [some (.ref 408), some (.int (nI q)), some (.long (lN id)), none, none]) (Nat.le_of_ble_eq_true rfl) rfl ?_
  have hk9 := h.2.2.2.2.2.2
  have hwl := hwf.1
  iterate 3 refine wp_step rfl rfl ?_
  refine wp_c0 rfl rfl (by decide) rfl (recv_ok h.1 rfl) rfl (q_mtypeOf (kd := some 1) h.1 h20 hM hT (by omega) hwf.1 hid (fun k hk => by cases hk; decide) (fun i z hz => by have := (wf_ty hwf hz).1; unfold tyOK at this; omega) ?_)
  cases et : tixk τ id 1 with
  | none =>
    rw [show tof τ id (some 1) = none from et]
    iterate 2 refine wp_step rfl rfl ?_
    refine wp_if_f rfl rfl ?_
    iterate 3 refine wp_step rfl rfl ?_
    refine wp_getg (v := (.int (nI p1))) rfl h.1 (by decide) (congrArg Value.int h57) ?_
    refine wp_c0 rfl rfl (by decide) rfl (recv_ok h.1 rfl) rfl (q_mwrong h.1 h.2.2.2.2.2.1 (fun T2 hf2 h2 => ?_))
    iterate 2 refine wp_step rfl rfl ?_
    refine wp_getg (v := (.int 3)) rfl h2 (by decide) (congrArg Value.int pk_us) ?_
    refine wp_if_f rfl rfl ?_
    have hno : kdb τ id 1 = false := by
      cases e9 : kdb τ id 1 with
      | true => obtain ⟨t, ht⟩ := (kdb_tixk hwf).mp e9; rw [et] at ht; cases ht
      | false => rfl
    refine wp_vret rfl rfl (hbad 3 p1 T2 _ K E (by unfold rdV; rw [if_pos hno]) (fr_mono hf2 (fun j hj => by simp only [List.mem_cons, List.not_mem_nil, or_false] at hj ⊢; omega)) (gf_up (gf_up (gf_refl _ _) (by simp)) (by simp)) ⟨h2, pk_us, by decide, (pk_un (by decide)).trans pk_us⟩ (mSk_fr hK hf2 (fun j hj => by simp only [List.mem_cons, List.not_mem_nil, or_false] at hj; omega)) (mEA_fr hE hf2 (fun j hj => by simp only [List.mem_cons, List.not_mem_nil, or_false] at hj; omega)) (mEo_refl _ _))
  | some u =>
    have hyes : kdb τ id 1 = true := (kdb_tixk hwf).mpr ⟨u, et⟩
    have hul : u < τ.length := by
      have := fsti_some et
      omega
    obtain ⟨hu1, x, hx, hx1⟩ := tixk_tix hwf et
    have hxk := (wf_ty hwf hx).1
    unfold tyOK at hxk
    rw [show tof τ id (some 1) = some u from et]
    unfold mO
    dsimp only
    iterate 2 refine wp_step rfl rfl ?_
    refine wp_if rfl (fun c9 => ?_) (fun c9 => ?_)
    · replace c9 := z_ge_t (a := 10 * (4 * w + ci) + u) (by omega) c9
      refine wp_step rfl rfl ?_
      refine wp_getg rfl h.1 (by decide) rfl ?_
      refine wp_step rfl rfl ?_
      refine wp_getg (v := (.int (nI w))) rfl h.1 (by decide) (congrArg Value.int h.2.2.1) ?_
      refine wp_ald rfl (Or.inl ⟨rfl, rfl⟩) (by decide) hE.1 (am_in_nI (by omega) (by decide)) ?_
      rw [nI_clamp (by omega)]
      rw [hEs.1]
      refine wp_step rfl rfl ?_
      refine wp_icmp rfl (fun c1 => ?_) (fun c1 => ?_)
      · replace c1 := n_ne_t (a := evs.length) (b := 60) (by omega) (by omega) c1
        refine wp_step rfl rfl ?_
        refine wp_getg (v := (.int 0)) rfl h.1 (by decide) (congrArg Value.int h.2.2.2.2.2.1) ?_
        refine wp_if_t rfl rfl ?_
        refine wp_step rfl rfl ?_
        refine wp_getg rfl h.1 (by decide) rfl ?_
        iterate 2 refine wp_step rfl rfl ?_
        refine wp_getg (v := (.int (nI w))) rfl h.1 (by decide) (congrArg Value.int h.2.2.1) ?_
        refine wp_step rfl rfl ?_
        rw [show (Int8.ofInt 60).toInt32 * nI w = nI (60 * w) from pk_mul 60 w]
        refine wp_step rfl rfl ?_
        refine wp_getg rfl h.1 (by decide) rfl ?_
        refine wp_step rfl rfl ?_
        refine wp_getg (v := (.int (nI w))) rfl h.1 (by decide) (congrArg Value.int h.2.2.1) ?_
        refine wp_ald rfl (Or.inl ⟨rfl, rfl⟩) (by decide) hE.1 (am_in_nI (by omega) (by decide)) ?_
        rw [nI_clamp (by omega)]
        rw [hEs.1]
        refine wp_step rfl rfl ?_
        rw [nI_add]
        refine wp_step rfl rfl ?_
        refine wp_ast rfl (Or.inl ⟨rfl, rfl⟩) hE.2.1 (am_in_nI (by omega) (by decide)) ?_
        rw [nI_clamp (by omega)]
        rw [show vp_nar (am_ty 0) (nI q) = nI q from rfl]
        show wp X (d + 7) 122 77 [some (.ref 408), some (.int (nI q)), some (.long (lN id)), none, some (.int (nI (10 * (4 * w + ci) + u)))] [] (am_upd S 415 (iA 120 (upd E.2.1 (60 * w + evs.length) (nI q)))) Q
        have r1 := mR_fr h (fr_up (js := [415]) (S := S) (a := 415) (x := iA 120 (upd E.2.1 (60 * w + evs.length) (nI q))) (by simp)) (by decide) (by decide)
        have hf_A1 : fr [415] S (am_upd S 415 (iA 120 (upd E.2.1 (60 * w + evs.length) (nI q)))) := fr_up (by simp)
        have hE_A1 : mEA (am_upd S 415 (iA 120 (upd E.2.1 (60 * w + evs.length) (nI q)))) (E.1, upd E.2.1 (60 * w + evs.length) (nI q), E.2.2) := ⟨(am_get_ne (by decide)).trans hE.1, am_get_self hE.2.1, (am_get_ne (by decide)).trans hE.2.2⟩
        generalize am_upd S 415 (iA 120 (upd E.2.1 (60 * w + evs.length) (nI q))) = A1 at r1 hE_A1 hf_A1 ⊢
        refine wp_step rfl rfl ?_
        refine wp_getg rfl r1.1 (by decide) rfl ?_
        iterate 2 refine wp_step rfl rfl ?_
        refine wp_getg (v := (.int (nI w))) rfl r1.1 (by decide) (congrArg Value.int r1.2.2.1) ?_
        refine wp_step rfl rfl ?_
        rw [show (Int8.ofInt 60).toInt32 * nI w = nI (60 * w) from pk_mul 60 w]
        refine wp_step rfl rfl ?_
        refine wp_getg rfl r1.1 (by decide) rfl ?_
        refine wp_step rfl rfl ?_
        refine wp_getg (v := (.int (nI w))) rfl r1.1 (by decide) (congrArg Value.int r1.2.2.1) ?_
        refine wp_ald rfl (Or.inl ⟨rfl, rfl⟩) (by decide) hE_A1.1 (am_in_nI (by omega) (by decide)) ?_
        rw [nI_clamp (by omega)]
        dsimp only
        rw [hEs.1]
        refine wp_step rfl rfl ?_
        rw [nI_add]
        refine wp_step rfl rfl ?_
        refine wp_getg (v := (.int (nI (4 * w + ci)))) rfl r1.1 (by decide) (congrArg Value.int h20) ?_
        iterate 2 refine wp_step rfl rfl ?_
        refine wp_getg (v := (.int (nI w))) rfl r1.1 (by decide) (congrArg Value.int r1.2.2.1) ?_
        refine wp_step rfl rfl ?_
        rw [show Int32.ofInt 4 * nI w = nI (4 * w) from pk_mul 4 w]
        refine wp_step rfl rfl ?_
        rw [pk_sub (by omega), show 4 * w + ci - 4 * w = ci by omega]
        refine wp_ast rfl (Or.inl ⟨rfl, rfl⟩) hE_A1.2.2 (am_in_nI (by omega) (by decide)) ?_
        rw [nI_clamp (by omega)]
        rw [show vp_nar (am_ty 0) (nI ci) = nI ci from rfl]
        show wp X (d + 7) 122 110 [some (.ref 408), some (.int (nI q)), some (.long (lN id)), none, some (.int (nI (10 * (4 * w + ci) + u)))] [] (am_upd A1 416 (iA 120 (upd E.2.2 (60 * w + evs.length) (nI ci)))) Q
        have r2 := mR_fr r1 (fr_up (js := [416]) (S := A1) (a := 416) (x := iA 120 (upd E.2.2 (60 * w + evs.length) (nI ci))) (by simp)) (by decide) (by decide)
        have hf_A2 : fr [416] A1 (am_upd A1 416 (iA 120 (upd E.2.2 (60 * w + evs.length) (nI ci)))) := fr_up (by simp)
        have hE_A2 : mEA (am_upd A1 416 (iA 120 (upd E.2.2 (60 * w + evs.length) (nI ci)))) (E.1, upd E.2.1 (60 * w + evs.length) (nI q), upd E.2.2 (60 * w + evs.length) (nI ci)) := ⟨(am_get_ne (by decide)).trans hE_A1.1, (am_get_ne (by decide)).trans hE_A1.2.1, am_get_self hE_A1.2.2⟩
        generalize am_upd A1 416 (iA 120 (upd E.2.2 (60 * w + evs.length) (nI ci))) = A2 at r2 hE_A2 hf_A2 ⊢
        refine wp_step rfl rfl ?_
        refine wp_getg rfl r2.1 (by decide) rfl ?_
        refine wp_step rfl rfl ?_
        refine wp_getg (v := (.int (nI w))) rfl r2.1 (by decide) (congrArg Value.int r2.2.2.1) ?_
        refine wp_step rfl rfl ?_
        refine wp_ald rfl (Or.inl ⟨rfl, rfl⟩) (by decide) hE_A2.1 (am_in_nI (by omega) (by decide)) ?_
        rw [nI_clamp (by omega)]
        dsimp only
        rw [hEs.1]
        iterate 2 refine wp_step rfl rfl ?_
        rw [show nI evs.length + Int32.ofInt 1 = nI (evs.length + 1) from nI_add evs.length 1]
        refine wp_ast rfl (Or.inl ⟨rfl, rfl⟩) hE_A2.1 (am_in_nI (by omega) (by decide)) ?_
        rw [nI_clamp (by omega)]
        rw [show vp_nar (am_ty 0) (nI (evs.length + 1)) = nI (evs.length + 1) from rfl]
        show wp X (d + 7) 122 123 [some (.ref 408), some (.int (nI q)), some (.long (lN id)), none, some (.int (nI (10 * (4 * w + ci) + u)))] [] (am_upd A2 414 (iA 2 (upd E.1 w (nI (evs.length + 1))))) Q
        have r3 := mR_fr r2 (fr_up (js := [414]) (S := A2) (a := 414) (x := iA 2 (upd E.1 w (nI (evs.length + 1)))) (by simp)) (by decide) (by decide)
        have hf_A3 : fr [414] A2 (am_upd A2 414 (iA 2 (upd E.1 w (nI (evs.length + 1))))) := fr_up (by simp)
        have hE_A3 : mEA (am_upd A2 414 (iA 2 (upd E.1 w (nI (evs.length + 1))))) (upd E.1 w (nI (evs.length + 1)), upd E.2.1 (60 * w + evs.length) (nI q), upd E.2.2 (60 * w + evs.length) (nI ci)) := ⟨am_get_self hE_A2.1, (am_get_ne (by decide)).trans hE_A2.2.1, (am_get_ne (by decide)).trans hE_A2.2.2⟩
        generalize am_upd A2 414 (iA 2 (upd E.1 w (nI (evs.length + 1)))) = A3 at r3 hE_A3 hf_A3 ⊢
        have hf3 : fr [408, 414, 415, 416, 425, 426, 427] S A3 := fr_trans (fr_mono hf_A1 (fun j hj => by simp only [List.mem_cons, List.not_mem_nil, or_false] at hj ⊢; omega)) (fr_trans (fr_mono hf_A2 (fun j hj => by simp only [List.mem_cons, List.not_mem_nil, or_false] at hj ⊢; omega)) (fr_mono hf_A3 (fun j hj => by simp only [List.mem_cons, List.not_mem_nil, or_false] at hj ⊢; omega)))
        have hK3 : mSk A3 K := mSk_fr (mSk_fr (mSk_fr hK hf_A1 (fun j hj => by simp only [List.mem_cons, List.not_mem_nil, or_false] at hj; omega)) hf_A2 (fun j hj => by simp only [List.mem_cons, List.not_mem_nil, or_false] at hj; omega)) hf_A3 (fun j hj => by simp only [List.mem_cons, List.not_mem_nil, or_false] at hj; omega)
        have hM3 : mTa A3 M := mTa_fr (mTa_fr (mTa_fr hM hf_A1 (fun j hj => by simp only [List.mem_cons, List.not_mem_nil, or_false] at hj; omega)) hf_A2 (fun j hj => by simp only [List.mem_cons, List.not_mem_nil, or_false] at hj; omega)) hf_A3 (fun j hj => by simp only [List.mem_cons, List.not_mem_nil, or_false] at hj; omega)
        have hEo : mEo E (upd E.1 w (nI (evs.length + 1)), upd E.2.1 (60 * w + evs.length) (nI q), upd E.2.2 (60 * w + evs.length) (nI ci)) w := mEo_add (by omega)
        clear hE_A1 hE_A2 hf_A1 hf_A2 hf_A3 r1 r2
        refine wp_step rfl rfl ?_
        refine wp_c0 rfl rfl (by decide) rfl (recv_ok r3.1 rfl) rfl (q_mcomp hb r3 (fun tk p3 T J e1 hf1 hg1 h1 => ?_) (fun v T J e1 hf1 hg1 h1 hq1 => ?_))
        · iterate 2 refine wp_step rfl rfl ?_
          refine wp_getg (v := (.int 0)) rfl h1.1 (by decide) (congrArg Value.int h1.2.2.2.2.2.1) ?_
          refine wp_if_t rfl rfl ?_
          iterate 2 refine wp_step rfl rfl ?_
          refine wp_putg rfl h1.1 (by decide) rfl rfl ?_
          rw [mkG_i rfl]
          have h2 : mR (am_upd T 408 (moC (upd J 29 (Int32.ofInt 0)) st li)) (upd J 29 (Int32.ofInt 0)) st li b w p3 lim := ⟨am_get_self h1.1, mBy_fr h1.2.1 (fr_up (js := [408]) (by simp)) (by decide), (pk_un (by decide)).trans h1.2.2.1, (pk_un (by decide)).trans h1.2.2.2.1, (pk_un (by decide)).trans h1.2.2.2.2.1, (pk_un (by decide)).trans h1.2.2.2.2.2.1, h1.2.2.2.2.2.2⟩
          have hf2 : fr [408] A3 (am_upd T 408 (moC (upd J 29 (Int32.ofInt 0)) st li)) := fr_trans hf1 (fr_up (by simp))
          have hg2 : gf [21, 29] I (upd J 29 (Int32.ofInt 0)) := gf_up (gf_mono hg1 (fun j hj => by simp only [List.mem_cons, List.not_mem_nil, or_false] at hj ⊢; omega)) (by simp)
          have h29 : (upd J 29 (Int32.ofInt 0)) 29 = nI 0 := pk_us
          generalize am_upd T 408 (moC (upd J 29 (Int32.ofInt 0)) st li) = T2 at h2 hf2 ⊢
          generalize upd J 29 (Int32.ofInt 0) = J2 at h2 hg2 h29
          have hK2 := mSk_fr hK3 hf2 (fun j hj => by simp only [List.mem_cons, List.not_mem_nil, or_false] at hj; omega)
          have hM2 := mTa_fr hM3 hf2 (fun j hj => by simp only [List.mem_cons, List.not_mem_nil, or_false] at hj; omega)
          have hE2 := mEA_fr hE_A3 hf2 (fun j hj => by simp only [List.mem_cons, List.not_mem_nil, or_false] at hj; omega)
          have hV2 := mV_gf hV hg2 (by decide) (by decide)
          have h202 : J2 20 = nI (4 * w + ci) := (hg2 20 (by decide)).trans h20
          have hf02 : fr [408, 414, 415, 416, 425, 426, 427] S T2 := fr_trans hf3 (fr_mono hf2 (fun j hj => by simp only [List.mem_cons, List.not_mem_nil, or_false] at hj ⊢; omega))
          have hl3 : p3 ≤ 960 := h2.2.2.2.2.2.2.2.1
          clear h1 hf1 hg1 hf3 hK3 hM3 hE_A3 hf2 r3
          refine wp_step rfl rfl ?_
          refine wp_c0 rfl rfl (by decide) rfl (recv_ok h2.1 rfl) rfl (q_mcounted h2 hV2 (fun T4 J4 hn4 hf4 hg4 h4 hV4 => ?_) (fun T4 J4 hn4 hf4 hg4 h4 hq4 => ?_))
          · iterate 4 refine wp_step rfl rfl ?_
            rw [nI_l (by omega)]
            refine wp_step rfl rfl ?_
            refine wp_c0 rfl rfl (by decide) rfl (recv_ok h4.1 rfl) rfl (q_mpush (D := 0) h4.1 ((hg4 29 (by decide)).trans h29) (by omega) (mSk_fr hK2 hf4 (fun j hj => by simp only [List.mem_cons, List.not_mem_nil, or_false] at hj; omega)) (fun T5 hf5 h5 hK5 => ?_))
            refine wp_step rfl rfl ?_
            refine wp_c0 rfl rfl (by decide) rfl (recv_ok h5 rfl) rfl ?_
            refine ev_wp (L0 := [some (.ref 408), none, none, none]) (Nat.le_of_ble_eq_true rfl) rfl ?_
            have hg5 : gf [21, 24, 29] I (upd J4 29 (nI (0 + 1))) := gf_up (gf_trans (gf_mono hg2 (fun j hj => by simp only [List.mem_cons, List.not_mem_nil, or_false] at hj ⊢; omega)) (gf_mono hg4 (fun j hj => by simp only [List.mem_cons, List.not_mem_nil, or_false] at hj ⊢; omega))) (by simp)
            have h16 := tix_ten hwf hu1
            have hM5 := mTa_fr (mTa_fr hM2 hf4 (fun j hj => by simp only [List.mem_cons, List.not_mem_nil, or_false] at hj; omega)) hf5 (fun j hj => by simp only [List.mem_cons, List.not_mem_nil, or_false] at hj; omega)
            have hE5 := mEA_fr (mEA_fr hE2 hf4 (fun j hj => by simp only [List.mem_cons, List.not_mem_nil, or_false] at hj; omega)) hf5 (fun j hj => by simp only [List.mem_cons, List.not_mem_nil, or_false] at hj; omega)
            have hf05 := (fr_trans hf02 (fr_trans (fr_mono hf4 (fun j hj => by simp only [List.mem_cons, List.not_mem_nil, or_false] at hj ⊢; omega)) (fr_mono hf5 (fun j hj => by simp only [List.mem_cons, List.not_mem_nil, or_false] at hj ⊢; omega))))
            refine st_fin (d := d) (D := 0) (h := 20) (s := 10 * (4 * w + ci) + u) (fs := x.2.2.2) (BF_all hb hwf hfh hT (by omega) 20) (by omega) (by omega) (hT.2 u x hx).2.2.2 (fun y hy => ?_) (by omega) x.2.2.2.length 0 p3 (n + 1) _ T5 _ (by omega) ⟨h5, mBy_fr h4.2.1 hf5 (by decide), (pk_un (by decide)).trans h4.2.2.1, (pk_un (by decide)).trans h4.2.2.2.1, (pk_un (by decide)).trans h4.2.2.2.2.1, (pk_un (by decide)).trans h4.2.2.2.2.2.1, h4.2.2.2.2.2.2⟩ pk_us hK5 ⟨show upd K.1 0 (Int32.ofInt (-1)) 0 = Int32.ofInt (-1) from pk_us, show vp_updL K.2.1 0 (lN (10 * (4 * w + ci) + u)) 0 = lN (10 * (4 * w + ci) + u) from pk_uLs, show upd K.2.2 0 (Int32.ofInt 0) 0 = Int32.ofInt 0 from pk_us⟩ ⟨fun e => ⟨(pk_un (by decide)).trans (hV4.1 e).1, (pk_un (by decide)).trans (hV4.1 e).2.1, (hV4.1 e).2.2⟩, fun e => (pk_un (by decide)).trans (hV4.2 e)⟩ ((hg5 20 (by decide)).trans h20) hM5 (fun p' n' T J K' e3 hf6 hg6 h6 h296 hK6 ha6 hV6 => ?_) (fun k pl T J K' e3 hf6 hg6 h6 hK6 hq6 hq7 => ?_) none none none
            · obtain ⟨f, hf⟩ := List.getElem?_of_mem hy
              have hyo := (wf_fd hwf hx hf).1
              unfold fdOK at hyo
              exact ⟨knM_fd hwf hfh hx hf, by omega, (sf_struct hwf hfh hnc hu1).2 rfl u x hu1 hx y hy⟩
            · rw [List.drop_zero] at e3
              refine fin_0 h6.1 h296 ?_
              show wp X (d + 7) 122 158 [some (.ref 408), some (.int (nI q)), some (.long (lN id)), none, some (.int (nI (10 * (4 * w + ci) + u)))] [] T Q
              exact wp_vret rfl rfl (hret tk p3 p' n' T J K' _ (by unfold rdV; rw [if_neg (by rw [hyes]; decide), if_neg c1, e1]; dsimp only; unfold rv; rw [if_neg (fun h9 => hn4 h9.1 h9.2), if_neg (by omega), if_neg (by omega), if_neg (by omega), if_neg (by omega), hu1]; dsimp only; rw [hx]; dsimp only; rw [e3]) (fr_trans hf05 (fr_mono hf6 (fun j hj => by simp only [List.mem_cons, List.not_mem_nil, or_false] at hj ⊢; omega))) (gf_trans hg5 hg6) h6 hK6 hV6 (mEA_fr hE5 hf6 (fun j hj => by simp only [List.mem_cons, List.not_mem_nil, or_false] at hj; omega)) (mEs_add (y := (ci, q, tk, id, p3, n)) hEs) hEo)
            · rw [List.drop_zero] at e3
              refine fin_x h6 hq7 ?_
              show wp X (d + 7) 122 158 [some (.ref 408), some (.int (nI q)), some (.long (lN id)), none, some (.int (nI (10 * (4 * w + ci) + u)))] [] T Q
              exact wp_vret rfl rfl (hbad k pl T J K' _ (by unfold rdV; rw [if_neg (by rw [hyes]; decide), if_neg c1, e1]; dsimp only; unfold rv; rw [if_neg (fun h9 => hn4 h9.1 h9.2), if_neg (by omega), if_neg (by omega), if_neg (by omega), if_neg (by omega), hu1]; dsimp only; rw [hx]; dsimp only; rw [e3]) (fr_trans hf05 (fr_mono hf6 (fun j hj => by simp only [List.mem_cons, List.not_mem_nil, or_false] at hj ⊢; omega))) (gf_trans (gf_mono hg5 (fun j hj => by simp only [List.mem_cons, List.not_mem_nil, or_false] at hj ⊢; omega)) hg6) h6 hK6 (mEA_fr hE5 hf6 (fun j hj => by simp only [List.mem_cons, List.not_mem_nil, or_false] at hj; omega)) hEo)
          · iterate 4 refine wp_step rfl rfl ?_
            rw [nI_l (by omega)]
            refine wp_step rfl rfl ?_
            refine wp_c0 rfl rfl (by decide) rfl (recv_ok h4.1 rfl) rfl (q_mpush (D := 0) h4.1 ((hg4 29 (by decide)).trans h29) (by omega) (mSk_fr hK2 hf4 (fun j hj => by simp only [List.mem_cons, List.not_mem_nil, or_false] at hj; omega)) (fun T5 hf5 h5 hK5 => ?_))
            refine wp_step rfl rfl ?_
            refine wp_c0 rfl rfl (by decide) rfl (recv_ok h5 rfl) rfl ?_
            refine ev_wp (L0 := [some (.ref 408), none, none, none]) (Nat.le_of_ble_eq_true rfl) rfl ?_
            refine fin_x (J := upd J4 29 (nI (0 + 1))) (k := 8) (pl := p3) ⟨h5, (pk_un (by decide)).trans h4.2.1, h4.2.2.1, (pk_un (by decide)).trans h4.2.2.2⟩ ⟨1, pk_us, by decide⟩ ?_ none none none
            show wp X (d + 7) 122 158 [some (.ref 408), some (.int (nI q)), some (.long (lN id)), none, some (.int (nI (10 * (4 * w + ci) + u)))] [] T5 Q
            exact wp_vret rfl rfl (hbad 8 p3 T5 (upd J4 29 (nI (0 + 1))) _ (upd E.1 w (nI (evs.length + 1)), upd E.2.1 (60 * w + evs.length) (nI q), upd E.2.2 (60 * w + evs.length) (nI ci)) (by unfold rdV; rw [if_neg (by rw [hyes]; decide), if_neg c1, e1]; dsimp only; unfold rv; rw [if_pos hn4]) (fr_trans hf02 (fr_trans (fr_mono hf4 (fun j hj => by simp only [List.mem_cons, List.not_mem_nil, or_false] at hj ⊢; omega)) (fr_mono hf5 (fun j hj => by simp only [List.mem_cons, List.not_mem_nil, or_false] at hj ⊢; omega)))) (gf_up (gf_trans (gf_mono hg2 (fun j hj => by simp only [List.mem_cons, List.not_mem_nil, or_false] at hj ⊢; omega)) (gf_mono hg4 (fun j hj => by simp only [List.mem_cons, List.not_mem_nil, or_false] at hj ⊢; omega))) (by simp)) ⟨h5, (pk_un (by decide)).trans h4.2.1, h4.2.2.1, (pk_un (by decide)).trans h4.2.2.2⟩ hK5 (mEA_fr (mEA_fr hE2 hf4 (fun j hj => by simp only [List.mem_cons, List.not_mem_nil, or_false] at hj; omega)) hf5 (fun j hj => by simp only [List.mem_cons, List.not_mem_nil, or_false] at hj; omega)) hEo)
        · iterate 2 refine wp_step rfl rfl ?_
          refine wp_getg (v := (.int 2)) rfl h1.1 (by decide) (congrArg Value.int h1.2.1) ?_
          refine wp_if_f rfl rfl ?_
          refine wp_vret rfl rfl (hbad 2 p T J K _ (by unfold rdV; rw [if_neg (by rw [hyes]; decide), if_neg c1, e1]) (fr_trans hf3 (fr_mono hf1 (fun j hj => by simp only [List.mem_cons, List.not_mem_nil, or_false] at hj ⊢; omega))) (gf_mono hg1 (fun j hj => by simp only [List.mem_cons, List.not_mem_nil, or_false] at hj ⊢; omega)) h1 (mSk_fr hK3 hf1 (fun j hj => by simp only [List.mem_cons, List.not_mem_nil, or_false] at hj; omega)) (mEA_fr hE_A3 hf1 (fun j hj => by simp only [List.mem_cons, List.not_mem_nil, or_false] at hj; omega)) hEo)
      · replace c1 := n_ne_f (a := evs.length) (b := 60) (by omega) (by omega) c1
        iterate 3 refine wp_step rfl rfl ?_
        refine wp_c0 rfl rfl (by decide) rfl (recv_ok h.1 rfl) rfl (q_mwrong h.1 h.2.2.2.2.2.1 (fun T2 hf2 h2 => ?_))
        refine wp_step rfl rfl ?_
        refine wp_getg (v := (.int 8)) rfl h2 (by decide) (congrArg Value.int pk_us) ?_
        refine wp_if_f rfl rfl ?_
        refine wp_vret rfl rfl (hbad 8 q T2 _ K E (by unfold rdV; rw [if_neg (by rw [hyes]; decide), if_pos c1]) (fr_mono hf2 (fun j hj => by simp only [List.mem_cons, List.not_mem_nil, or_false] at hj ⊢; omega)) (gf_up (gf_up (gf_refl _ _) (by simp)) (by simp)) ⟨h2, pk_us, by decide, (pk_un (by decide)).trans pk_us⟩ (mSk_fr hK hf2 (fun j hj => by simp only [List.mem_cons, List.not_mem_nil, or_false] at hj; omega)) (mEA_fr hE hf2 (fun j hj => by simp only [List.mem_cons, List.not_mem_nil, or_false] at hj; omega)) (mEo_refl _ _))
    · replace c9 := z_ge_f (a := 10 * (4 * w + ci) + u) (by omega) c9
      exact c9.elim
end MTOLD
